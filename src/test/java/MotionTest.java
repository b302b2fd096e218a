/** Section 5: the GUESS of VECTORS, SKIPPED and DIRECT ones, samples of references, WEIGHTS. */
public final class MotionTest {
    private static final int WRONG = 4;

    public static void main(String[] args) {
        oneNeighbour();
        slicesWithin();
        quartersAlone();
        upperAndCorner();
        medians();
        halves();
        laterPieces();
        withoutReference();
        skippedOnes();
        directReferences();
        directByCorner();
        directOfNone();
        directWithoutEntries();
        stillCorners();
        stillByLists();
        timeOfCorners();
        timeOfLists();
        timeWithoutEntry();
        timeOfQuarters();
        timeOfTheLastEntry();
        timesClamped();
        timesRounded();
        timesOfTheSame();
        partSamples();
        partsOfBoth();
        luma();
        chroma();
        plainWeights();
        bothWeights();
        weightsByTime();
        weightsBehindOthers();
        Check.end();
    }

    private static Streams sets(int wide, int high, int refs) {
        Streams s = new Streams().size(wide, high);
        s.refs = refs;
        s.lowBits = 8;
        return s;
    }

    /** An OWN picture of RAW BLOCKS, and as many references behind it as there may be. */
    private static Streams own(Streams s) {
        s.sets();
        int n = s.refs;
        for (int i = 0; i < n; i++) {
            Data d = (i == 0 ? s.head(5, 2) : s.head(1, 2).at(i, 16 * i)).data();
            for (int mb = 0; mb < s.width * s.height; mb++) {
                d.type(25).raw(40 + 10 * mb + 50 * i, 60 + 30 * i, 90);
            }
            s.add(d.unit());
        }
        return s;
    }

    private static VideoSuite decoded(Streams s, byte[] unit) {
        Streams t = new Streams();
        t.bytes.writeBytes(s.bytes.toByteArray());
        VideoSuite v = t.add(unit).object();
        v.decode(400);
        return v;
    }

    private static VideoSuite whole(String what, Streams s, Data d) {
        VideoSuite v = decoded(s, d.unit());
        Check.due(what + ": FAULTS", v.count(4), 0);
        return v;
    }

    private static void fault(String what, Streams s, Data d) {
        int place = d.mark();
        VideoSuite v = decoded(s, d.unit());
        Check.answers(what + ": its place", place, () -> v.fault(0, 1));
        Check.answers(what + ": its kind", WRONG, () -> v.fault(0, 2));
    }

    private static void is(String what, VideoSuite v, int mb, int b, int list, int x, int y) {
        Check.due(what + ": x", v.vector(mb, b, list, 0), x);
        Check.due(what + ": y", v.vector(mb, b, list, 1), y);
    }

    private static Streams.Head p(Streams s) {
        return s.head(1, 0).at(s.refs, 4);
    }

    /** A BLOCK 16 by 16 of P. */
    private static Data block(Data d, int most, int r, int x, int y) {
        d.type(0);
        return (most > 0 ? d.te(most, r) : d).move(x, y).pattern(0);
    }

    /** B and C (also D) not THERE: A's, whatever its reference. */
    private static void oneNeighbour() {
        Streams s = own(sets(2, 1, 2));
        for (int r = 0; r < 2; r++) {
            Data d = block(block(p(s).n(2).data(), 1, r, 20, -12), 1, 0, 0, 0);
            is("A alone, of reference " + r, whole("A alone", s, d), 1, 0, 0, 20, -12);
        }
        // one that is I: 0 0
        Data d = block(p(s).n(2).data().type(30).raw(5), 1, 0, 3, 4);
        is("A alone, I", whole("A alone, I", s, d), 1, 0, 0, 3, 4);
    }

    /** A and B THERE, C and D not: A counts alone where it alone has the reference; likewise A and C, but B not. */
    private static void slicesWithin() {
        for (int has = 0; has < 8; has++) {
            // two columns, a SLICE from BLOCK 1 on: of BLOCK 3 A is 2, B is 1
            Streams s = own(sets(2, 2, 2));
            Data d = p(s).n(2).from(1).data();
            block(block(d, 1, has & 1, 9, -7), 1, has >> 1 & 1, 30, 20);
            VideoSuite v = whole("A and B", s, block(d, 1, has >> 2, 0, 0));
            besides("A and B, " + has, v, 3, 2, 1, has >> 2);
            // three columns, from BLOCK 2 on: of BLOCK 4 A is 3, C is 2
            s = own(sets(3, 2, 2));
            d = p(s).n(2).from(2).data();
            block(block(d, 1, has & 1, 9, -7), 1, has >> 1 & 1, 30, 20);
            v = whole("A and C", s, block(d, 1, has >> 2, 0, 0));
            besides("A and C, " + has, v, 4, 3, 2, has >> 2);
        }
    }

    /** The GUESS of a BLOCK with two NEIGHBOURS: that of the one that has its reference, else the MEDIAN with 0 0. */
    private static void besides(String what, VideoSuite v, int mb, int one, int other, int r) {
        boolean isOne = v.vector(one, 0, 0, 2) == r;
        boolean isOther = v.vector(other, 0, 0, 2) == r;
        int[] due = new int[2];
        for (int i = 0; i < 2; i++) {
            int a = v.vector(one, 0, 0, i);
            int b = v.vector(other, 0, 0, i);
            int middle = Math.max(Math.min(a, b), Math.min(Math.max(a, b), 0));
            due[i] = isOne == isOther ? middle : isOne ? a : b;
        }
        is(what, v, mb, 0, 0, due[0], due[1]);
    }

    /** A quarter's parts leave the others alone: by a list that those don't use they have -1 and 0 0. */
    private static void quartersAlone() {
        int[] parts = {0, 1, 1, 1, 2, 2, 2, 2, 2, 2, 4, 4, 4};
        int[] uses = {0, 1, 2, 3, 1, 1, 2, 2, 3, 3, 1, 2, 3};
        Streams s = own(sets(1, 1, 2));
        for (int i = 0; i < 48; i++) {
            int sub = 1 + i / 4;
            int q = i % 4;
            int other = uses[sub] == 1 ? 2 : 1;
            int[] subs = {other, other, other, other};
            subs[q] = sub;
            Data d = s.head(1, 1).at(2, 8).ref(0).n(1, 1).data().type(22).sub(subs);
            for (int l = 0; l < 2; l++) {
                for (int k = 0; k < 4; k++) {
                    for (int n = 0; n < parts[subs[k]] && (uses[subs[k]] >> l & 1) == 1; n++) {
                        d.move(k == q ? 21 + n : 3, k == q ? -30 : 5);
                    }
                }
            }
            VideoSuite v = whole("sub " + sub + " in " + q, s, d.pattern(0));
            for (int l = 0; l < 2; l++) {
                for (int b = 0; b < 16; b++) {
                    boolean isUsed = (uses[subs[b / 4]] >> l & 1) == 1;
                    String what = "P19 sub " + sub + " in " + q + ", list " + l + ", piece " + b;
                    Check.due(what, v.vector(0, b, l, 2), isUsed ? 0 : -1);
                    if (!isUsed) {
                        is(what, v, 0, b, l, 0, 0);
                    }
                }
            }
        }
    }

    /** Just one of A, B, C has the reference: its; C not THERE: D counts. */
    private static void upperAndCorner() {
        Streams s = own(sets(3, 2, 2));
        // what is told of BLOCKS is more than their GUESS: their VECTORS are read back
        for (int only = 0; only < 3; only++) {
            Data d = p(s).n(2).data();
            int[] blocks = {1, 2, 3};
            for (int mb = 0; mb < 4; mb++) {
                block(d, 1, mb == blocks[only] ? 0 : 1, 7 * mb + 3, 5 - 9 * mb);
            }
            VideoSuite v = whole("one of the reference", s, block(d, 1, 0, 0, 0));
            is("one of the reference, BLOCK " + blocks[only], v, 4, 0, 0, v.vector(blocks[only], 0, 0, 0),
                    v.vector(blocks[only], 0, 0, 1));
        }
        // the last BLOCK of a row has no C: D, which is BLOCK 1
        Data d = p(s).n(2).data();
        for (int mb = 0; mb < 5; mb++) {
            block(d, 1, mb == 1 ? 0 : 1, 7 * mb + 3, 5 - 9 * mb);
        }
        VideoSuite v = whole("D alone has the reference", s, block(d, 1, 0, 0, 0));
        is("D alone has the reference", v, 5, 0, 0, v.vector(1, 0, 0, 0), v.vector(1, 0, 0, 1));
        // where C is THERE, D does not count
        d = p(s).n(2).data();
        for (int mb = 0; mb < 4; mb++) {
            block(d, 1, mb == 0 ? 0 : 1, 7 * mb + 3, 5 - 9 * mb);
        }
        v = whole("D does not count", s, block(d, 1, 0, 0, 0));
        median("D does not count", v, 4, new int[] {3, 1, 2});
    }

    private static int middle(int a, int b, int c) {
        int[] row = {a, b, c};
        java.util.Arrays.sort(row);
        return row[1];
    }

    private static void median(String what, VideoSuite v, int mb, int[] around) {
        int[] due = new int[2];
        for (int i = 0; i < 2; i++) {
            due[i] = middle(v.vector(around[0], 0, 0, i), v.vector(around[1], 0, 0, i), v.vector(around[2], 0, 0, i));
        }
        is(what, v, mb, 0, 0, due[0], due[1]);
    }

    /** None, two or three of the reference: the MEDIAN of x and of y; I counts as 0 0. */
    private static void medians() {
        Streams s = own(sets(3, 2, 2));
        for (int mask = 0; mask < 8; mask++) {
            if (Integer.bitCount(mask) == 1) {
                continue;
            }
            Data d = block(p(s).n(2).data(), 1, 0, 50, -90);
            for (int mb = 1; mb < 4; mb++) {
                block(d, 1, (mask >> mb - 1 & 1) == 1 ? 0 : 1, mb * mb * 11 - 40, 30 - 17 * mb);
            }
            VideoSuite v = whole("MEDIAN of " + mask, s, block(d, 1, 0, 0, 0));
            median("MEDIAN of " + mask, v, 4, new int[] {3, 1, 2});
        }
        Data d = block(p(s).n(2).data(), 1, 0, 50, -90);
        block(d, 1, 0, 8, 8).type(30).raw(7);
        VideoSuite v = whole("MEDIAN with I", s, block(block(d, 1, 0, -70, 200), 1, 0, 0, 0));
        median("MEDIAN with I", v, 4, new int[] {3, 1, 2});
        // B alone is THERE of A, B: C and B of the reference, A not THERE
        d = p(s).n(2).data();
        for (int mb = 0; mb < 3; mb++) {
            block(d, 1, 0, 30 * mb - 20, 9 - 20 * mb);
        }
        v = whole("A not THERE", s, block(d, 1, 0, 0, 0));
        is("A not THERE: it counts as 0 0", v, 3, 0, 0, middle(0, v.vector(0, 0, 0, 0), v.vector(1, 0, 0, 0)),
                middle(0, v.vector(0, 0, 0, 1), v.vector(1, 0, 0, 1)));
    }

    /** 16 by 8 and 8 by 16: one side alone, if it has the reference. */
    private static void halves() {
        Streams s = own(sets(3, 2, 2));
        for (int r = 0; r < 2; r++) {
            for (int type = 1; type < 3; type++) {
                Data d = p(s).n(2).data();
                int[] refs = {1, r, 1, 0};
                int[] more = {1, 1, r, 0};
                for (int mb = 0; mb < 4; mb++) {
                    block(d, 1, type == 1 ? refs[mb] : more[mb], 13 * mb + 3, 5 - 19 * mb);
                }
                d.type(type).te(1, type == 1 ? r : 0).te(1, type == 1 ? 0 : r).move(0, 0, 0, 0).pattern(0);
                VideoSuite v = whole("type " + type, s, d);
                // upper: B; lower: A; left: A; right: C
                int first = type == 1 ? 1 : 3;
                int second = type == 1 ? 3 : 2;
                is("type " + type + ", the first part", v, 4, 0, 0, v.vector(first, 0, 0, 0), v.vector(first, 0, 0, 1));
                is("type " + type + ", the second part", v, 4, 12, 0, v.vector(second, 0, 0, 0), v.vector(second, 0, 0, 1));
            }
        }
        // without it: as else. The upper part: A and C have it, B has not
        Data d = p(s).n(2).data();
        int[] refs = {1, 1, 0, 0};
        for (int mb = 0; mb < 4; mb++) {
            block(d, 1, refs[mb], 13 * mb + 3, 5 - 19 * mb);
        }
        d.type(1).te(1, 0).te(1, 1).move(0, 0, 0, 0).pattern(0);
        VideoSuite v = whole("16 by 8 as else", s, d);
        median("16 by 8 as else", v, 4, new int[] {3, 1, 2});
        // the lower part: B is the upper one (0), A has reference 0, C is not THERE, D is the left one's: none has 1
        is("16 by 8, lower, as else", v, 4, 8, 0,
                middle(v.vector(3, 0, 0, 0), v.vector(4, 0, 0, 0), v.vector(3, 0, 0, 0)),
                middle(v.vector(3, 0, 0, 1), v.vector(4, 0, 0, 1), v.vector(3, 0, 0, 1)));
    }

    /** C in a later piece of the same BLOCK is not THERE: D. */
    private static void laterPieces() {
        Streams s = own(sets(1, 1, 1));
        Data d = p(s).data().type(3).sub(3, 0, 1, 2);
        int[] moves = {4, 8, 20, -4, -12, 40, 60, 4, -8, 16, 12, 20, -28, 8, 4, -100, 80, 12};
        d.move(moves).pattern(0);
        VideoSuite v = whole("QUARTERED", s, d);
        int[] due = parts(moves);
        int[] b = {0, 1, 2, 3, 4, 8, 10, 12, 13};
        for (int i = 0; i < b.length; i++) {
            is("QUARTERED, piece " + b[i], v, 0, b[i], 0, due[2 * i], due[2 * i + 1]);
        }
    }

    /** The parts of subs 3, 0, 1, 2 in a BLOCK alone, by hand. */
    private static int[] parts(int[] m) {
        int[] v = new int[18];
        for (int i = 0; i < 2; i++) {
            int[] w = new int[9];
            w[0] = m[i];
            // piece 1: A alone
            w[1] = w[0] + m[2 + i];
            // piece 2: B is piece 0, C piece 1; A not THERE: two of the reference
            w[2] = middle(0, w[0], w[1]) + m[4 + i];
            // piece 3: A 2, B 1, C is piece 4, that comes later: D is 0
            w[3] = middle(w[2], w[1], w[0]) + m[6 + i];
            // quarter 1: A is piece 1 alone
            w[4] = w[1] + m[8 + i];
            // quarter 2, upper 8 by 4: B is piece 2, C is piece 6 of quarter 1; lower: B is itself, C and D not THERE
            w[5] = middle(0, w[2], w[4]) + m[10 + i];
            w[6] = w[5] + m[12 + i];
            // quarter 3, left 4 by 8: A piece 9, B 6, C 7; right: A is it, B 7, C not THERE, D 6
            w[7] = middle(w[5], w[4], w[4]) + m[14 + i];
            w[8] = middle(w[7], w[4], w[4]) + m[16 + i];
            for (int k = 0; k < 9; k++) {
                v[2 * k + i] = w[k];
            }
        }
        return v;
    }

    /** By list 1 alone is without a reference by list 0. */
    private static void withoutReference() {
        Streams s = own(sets(2, 1, 2));
        Data d = s.head(1, 1).at(2, 8).ref(0).data().type(2).move(40, -36).pattern(0);
        d.type(3).move(1, 2, 3, 4).pattern(0);
        VideoSuite v = whole("by list 1", s, d);
        is("by list 0 there is none", v, 1, 0, 0, 1, 2);
        is("by list 1 there is one", v, 1, 0, 1, 43, -32);
        Check.due("P19 by list 0: none", v.vector(0, 0, 0, 2), -1);
    }

    private static void skippedOnes() {
        Streams s = own(sets(2, 2, 2));
        // reference and VECTOR of D, B and A of the last BLOCK: at rest A, then B; of the rest none is
        int[][][] all = {
            {{0, 8, 8}, {0, 12, 4}, {0, 0, 0}}, {{0, 8, 8}, {0, 0, 0}, {0, 12, 4}}, {{0, 8, 8}, {1, 0, 0}, {0, 12, 4}},
            {{0, 8, 8}, {0, 12, 4}, {1, 0, 0}}, {{0, 8, 8}, {0, 0, 1}, {0, 12, 4}}, {{0, 8, 8}, {0, 12, 4}, {0, 1, 0}},
            {{0, 8, 8}, {0, 12, 4}, {0, 20, -40}},
        };
        for (int i = 0; i < all.length; i++) {
            Data d = p(s).n(2).data();
            for (int mb = 0; mb < 3; mb++) {
                int[] g = mb == 0 ? new int[2] : mb == 1 ? new int[] {all[i][0][1], all[i][0][2]} : thirdGuess(all[i]);
                block(d, 1, all[i][mb][0], all[i][mb][1] - g[0], all[i][mb][2] - g[1]);
            }
            VideoSuite v = whole("SKIPPED " + i, s, d.skipped(1));
            for (int mb = 0; mb < 3; mb++) {
                is("as told", v, mb, 0, 0, all[i][mb][1], all[i][mb][2]);
            }
            int n = 0;
            int only = 0;
            for (int k = 0; k < 3; k++) {
                n += all[i][k][0] == 0 ? 1 : 0;
                only = all[i][k][0] == 0 ? k : only;
            }
            int x = n == 1 ? all[i][only][1] : middle(all[i][0][1], all[i][1][1], all[i][2][1]);
            int y = n == 1 ? all[i][only][2] : middle(all[i][0][2], all[i][1][2], all[i][2][2]);
            is("SKIPPED " + i, v, 3, 0, 0, i < 2 ? 0 : x, i < 2 ? 0 : y);
            Check.due("P19 SKIPPED: reference 0", v.vector(3, 0, 0, 2), 0);
        }
        Data d = block(p(s).n(2).data(), 1, 0, 9, 9).skipped(2);
        VideoSuite v = whole("SKIPPED without B, then without A", s, d);
        is("SKIPPED without B", v, 1, 0, 0, 0, 0);
        is("SKIPPED without A", v, 2, 0, 0, 0, 0);
    }

    /** The GUESS of the left one of the second row: B and C are the two of the first one. */
    private static int[] thirdGuess(int[][] k) {
        boolean first = k[0][0] == k[2][0];
        boolean second = k[1][0] == k[2][0];
        if (first != second) {
            return new int[] {k[first ? 0 : 1][1], k[first ? 0 : 1][2]};
        }
        return new int[] {middle(0, k[0][1], k[1][1]), middle(0, k[0][2], k[1][2])};
    }

    /** DIRECT by space: the least reference of A, B, C. */
    private static void directReferences() {
        Streams s = own(sets(3, 2, 3));
        for (int i = 0; i < 64; i++) {
            // of B, C, A (BLOCKS 1, 2, 3) by list 0: 0, 1, 2, or none (by list 1 alone)
            int[] r = {i % 4, i / 4 % 4, i / 16};
            Data d = s.head(1, 1).at(3, 24).ref(0).n(3, 2).data();
            for (int mb = 0; mb < 4; mb++) {
                int k = mb == 0 ? 3 : r[mb - 1];
                if (k == 3) {
                    d.type(2).te(1, 1).move(30, 40).pattern(0);
                } else {
                    d.type(1).te(2, k).move(30, 40).pattern(0);
                }
            }
            VideoSuite v = whole("DIRECT " + i, s, d.skipped(1));
            int least = Math.min(r[0], Math.min(r[1], r[2]));
            Check.due("P19 DIRECT " + i + ", list 0", v.vector(4, 0, 0, 2), least == 3 ? -1 : least);
            boolean any = r[0] == 3 || r[1] == 3 || r[2] == 3;
            Check.due("P19 DIRECT " + i + ", list 1", v.vector(4, 0, 1, 2), any ? 1 : -1);
        }
    }

    /** C not THERE: D counts. */
    private static void directByCorner() {
        Streams s = own(sets(2, 2, 2));
        for (int corner = 0; corner < 2; corner++) {
            // the last BLOCK: D is BLOCK 0, B 1, A 2
            Data d = s.head(1, 1).at(2, 8).ref(0).n(2, 2).data();
            for (int mb = 0; mb < 3; mb++) {
                d.type(1).te(1, mb == 0 ? corner : 1).move(4, 4).pattern(0);
            }
            VideoSuite v = whole("D of reference " + corner, s, d.skipped(1));
            Check.due("P19 DIRECT by D", v.vector(3, 0, 0, 2), corner);
        }
        // where C is THERE, D does not count: in the second row of three
        s = own(sets(3, 2, 2));
        Data d = s.head(1, 1).at(2, 8).ref(0).n(2, 2).data();
        for (int mb = 0; mb < 4; mb++) {
            d.type(1).te(1, mb == 0 ? 0 : 1).move(4, 4).pattern(0);
        }
        VideoSuite v = whole("D beside C", s, d.skipped(1));
        Check.due("P19 DIRECT not by D", v.vector(4, 0, 0, 2), 1);
    }

    private static void directOfNone() {
        Streams s = own(sets(2, 1, 2));
        VideoSuite v = whole("DIRECT beside nothing", s, s.head(1, 1).at(2, 8).ref(0).data().type(0).pattern(0));
        for (int l = 0; l < 2; l++) {
            Check.due("P19 both -1: both 0", v.vector(0, 0, l, 2), 0);
            is("both -1: 0 0", v, 0, 0, l, 0, 0);
        }
        v = whole("DIRECT beside I", s, s.head(1, 1).at(2, 8).ref(0).data().type(48).raw(5).skipped(1));
        Check.due("P19 beside I: both 0", v.vector(1, 0, 1, 2), 0);
    }

    /** Entries that are used and aren't there. */
    private static void directWithoutEntries() {
        Streams s = own(sets(1, 1, 1));
        // an ORDER below that of the one reference: it is in both lists; N1 2: entry 1 isn't there
        Streams.Head h = s.head(1, 1).at(1, 4).ref(0).n(1, 2);
        fault("list 1's entry 1 isn't there", s, h.data().type(2).te(1, 1));
        // QUARTERED without DIRECT needs no entry of list 0
        h = s.head(1, 1).at(1, 4).ref(0).n(1, 1);
        whole("no DIRECT", s, h.data().type(22).sub(2, 2, 2, 2).move(0, 0, 0, 0, 0, 0, 0, 0).pattern(0));
        Streams none = sets(1, 1, 1).sets();
        none.add(none.head(5, 2).ref(0).data().type(25).raw(1).unit());
        for (int space = 0; space < 2; space++) {
            h = none.head(1, 1).at(0, 4).ref(0);
            h.space = space;
            fault("no entry at all, type 0", none, h.data().type(0));
            fault("no entry at all, a quarter", none, h.data().type(22).sub(1, 1, 0, 1));
            int place = h.data().place();
            VideoSuite v = decoded(none, h.data().skipped(1).unit());
            Check.due("no entry at all, SKIPPED: its place", v.fault(0, 1), place);
            Check.due("no entry at all, SKIPPED: its kind", v.fault(0, 2), WRONG);
        }
    }

    /** Each quarter goes by its CORNER piece: 0, 5, 10, 15. */
    private static void stillCorners() {
        for (int corner = 0; corner < 4; corner++) {
            Streams s = sets(2, 1, 2).sets();
            s.add(s.head(5, 2).data().type(25).raw(1).type(25).raw(2).unit());
            // the second BLOCK: all of its pieces move, but for the CORNER of one quarter
            Data d = s.head(1, 0).at(1, 16).data().type(30).raw(3).type(3).sub(3, 3, 3, 3);
            int[] now = new int[32];
            for (int b = 0; b < 16; b++) {
                int want = b == 5 * corner ? 1 : 60;
                int guess = quarterGuess(now, b);
                d.move(want - guess, 0);
                now[b] = want;
            }
            s.add(d.pattern(0).unit());
            d = s.head(1, 1).at(2, 8).ref(0).data().type(3).move(12, -8, 4, 4).pattern(0).skipped(1);
            VideoSuite v = whole("CORNER of quarter " + corner, s, d);
            for (int q = 0; q < 4; q++) {
                for (int i = 0; i < 4; i++) {
                    is("CORNER of quarter " + corner + ", piece " + (4 * q + i), v, 1, 4 * q + i, 0, q == corner ? 0 : 12,
                            q == corner ? 0 : -8);
                    is("by list 1", v, 1, 4 * q + i, 1, q == corner ? 0 : 4, q == corner ? 0 : 4);
                }
            }
        }
    }

    /** x of the GUESS in a BLOCK of 16 pieces by one reference, beside an I one at the left, nothing above. */
    private static int quarterGuess(int[] x, int b) {
        int px = b / 4 % 2 * 2 + b % 2;
        int py = b / 8 * 2 + b / 2 % 2;
        boolean hasLeft = px > 0;
        boolean hasAbove = py > 0;
        int left = hasLeft ? x[number(px - 1, py)] : 0;
        int above = hasAbove ? x[number(px, py - 1)] : 0;
        int behind = -1;
        if (py > 0 && px < 3 && number(px + 1, py - 1) < b) {
            behind = number(px + 1, py - 1);
        } else if (py > 0 && px > 0) {
            behind = number(px - 1, py - 1);
        }
        int n = (hasLeft ? 1 : 0) + (hasAbove ? 1 : 0) + (behind >= 0 ? 1 : 0);
        if (n == 1) {
            return hasLeft ? left : hasAbove ? above : x[behind];
        }
        return n == 0 ? 0 : middle(left, above, behind >= 0 ? x[behind] : 0);
    }

    private static int number(int px, int py) {
        return py / 2 * 8 + px / 2 * 4 + py % 2 * 2 + px % 2;
    }

    /** By list 1, if there is none by list 0; reference 0 alone; I is not STILL. */
    private static void stillByLists() {
        for (int kind = 0; kind < 5; kind++) {
            Streams s = sets(2, 1, 3).sets();
            s.add(s.head(5, 2).data().type(25).raw(1).type(25).raw(2).unit());
            s.add(s.head(1, 2).at(1, 40).data().type(25).raw(1).type(25).raw(2).unit());
            // B that is a REFERENCE; its second BLOCK
            Data d = s.head(1, 1).at(2, 20).n(2, 2).data().type(48).raw(9);
            if (kind == 0) {
                d.type(2).te(1, 0).move(1, -1).pattern(0);
            } else if (kind == 1) {
                d.type(2).te(1, 1).move(1, -1).pattern(0);
            } else if (kind == 2) {
                d.type(3).te(1, 0).te(1, 0).move(1, 1, 80, 80).pattern(0);
            } else if (kind == 3) {
                d.type(3).te(1, 0).te(1, 0).move(80, 80, 1, 1).pattern(0);
            } else {
                d.type(48).raw(9);
            }
            s.add(d.unit());
            d = s.head(1, 1).at(3, 8).ref(0).n(1, 1).data().type(3).move(12, -8, 4, 4).pattern(0).skipped(1);
            VideoSuite v = whole("STILL of kind " + kind, s, d);
            Check.due("P23 entry 0 of list 1", v.entry(1, 0), 20);
            boolean still = kind == 0 || kind == 2;
            is("STILL of kind " + kind, v, 1, 0, 0, still ? 0 : 12, still ? 0 : -8);
        }
        // a reference above 0 moves on, though it is STILL
        Streams s = own(sets(2, 1, 3));
        s.add(s.head(1, 0).at(3, 60).data().skipped(2).unit());
        Data d = s.head(1, 1).at(4, 56).ref(0).n(2, 2).data().type(3).te(1, 1).te(1, 0).move(12, -8, 4, 4).pattern(0);
        VideoSuite v = whole("a reference above 0", s, d.skipped(1));
        is("a reference above 0", v, 1, 0, 0, 12, -8);
        is("reference 0 of the other list", v, 1, 0, 1, 0, 0);
    }

    /** DIRECT by time: ORDERS 0 and 16 of the references, 4 of this one: a quarter of the way. */
    private static void timeOfCorners() {
        Streams s = sets(1, 1, 2).sets();
        s.add(s.head(5, 2).data().type(25).raw(1).unit());
        Data d = s.head(1, 0).at(1, 16).data().type(3).sub(0, 0, 0, 0).move(40, 8, -80, -16, 100, 20, 12, -64);
        s.add(d.pattern(0).unit());
        Streams.Head h = s.head(1, 1).at(2, 4).ref(0);
        h.space = 0;
        VideoSuite v = whole("by time", s, h.data().skipped(1));
        VideoSuite w = s.object();
        w.decode(400);
        for (int b = 0; b < 16; b++) {
            int x = w.vector(0, 5 * (b / 4), 0, 0);
            int y = w.vector(0, 5 * (b / 4), 0, 1);
            is("by time, list 0, piece " + b, v, 0, b, 0, 64 * x + 128 >> 8, 64 * y + 128 >> 8);
            is("by time, list 1, piece " + b, v, 0, b, 1, (64 * x + 128 >> 8) - x, (64 * y + 128 >> 8) - y);
        }
        // I: references 0 and 0, VECTORS 0 0
        Streams t = sets(1, 1, 2).sets();
        t.add(t.head(5, 2).data().type(25).raw(1).unit()).add(t.head(1, 2).at(1, 16).data().type(25).raw(1).unit());
        v = whole("by time, I", t, h.data().skipped(1));
        for (int l = 0; l < 2; l++) {
            is("by time, I", v, 0, 0, l, 0, 0);
            Check.due("P19 by time, I", v.vector(0, 0, l, 2), 0);
        }
        h = s.head(1, 1).at(2, 4).ref(0);
        h.space = 0;
        v = whole("quarters by time", s, h.data().type(22).sub(1, 0, 1, 1).move(0, 0, 0, 0, 0, 0).pattern(0));
        is("the quarter by time", v, 0, 4, 0, 64 * w.vector(0, 5, 0, 0) + 128 >> 8, 64 * w.vector(0, 5, 0, 1) + 128 >> 8);
    }

    /** By time too it is the CORNER piece that counts: 0, 5, 10, 15. */
    private static void timeOfQuarters() {
        Streams s = sets(1, 1, 2).sets();
        s.add(s.head(5, 2).data().type(25).raw(1).unit());
        Data d = s.head(1, 0).at(1, 16).data().type(3).sub(3, 3, 3, 3);
        for (int b = 0; b < 16; b++) {
            d.move(36 * b % 97 - 40, 28 * b % 89 - 40);
        }
        s.add(d.pattern(0).unit());
        VideoSuite w = s.object();
        w.decode(400);
        Streams.Head h = s.head(1, 1).at(2, 4).ref(0);
        h.space = 0;
        VideoSuite v = whole("by time", s, h.data().skipped(1));
        for (int b = 0; b < 16; b++) {
            int x = w.vector(0, 5 * (b / 4), 0, 0);
            int y = w.vector(0, 5 * (b / 4), 0, 1);
            is("by time, piece " + b, v, 0, b, 0, 64 * x + 128 >> 8, 64 * y + 128 >> 8);
        }
    }

    /** The picture stands at the last of eight places alone. */
    private static void timeOfTheLastEntry() {
        Streams s = sets(1, 1, 2).sets();
        s.add(s.head(5, 2).data().type(25).raw(1).unit());
        s.add(s.head(1, 0).at(1, 16).data().type(0).move(20, 8).pattern(0).unit());
        for (int n = 7; n <= 8; n++) {
            // seven times the P before it
            Streams.Head h = s.head(1, 1).at(2, 4).ref(0).n(n, 1).moves(0, 0, 0, 0, 15, 0, 15, 0, 15, 0, 15, 0, 15, 0, 15);
            h.space = 0;
            Data d = h.data().type(0);
            if (n == 7) {
                fault("it is beyond seven", s, d);
            } else {
                VideoSuite v = whole("it is the eighth", s, d.pattern(0));
                Check.due("P23 the seventh", v.entry(0, 6), 16);
                Check.due("P23 the eighth", v.entry(0, 7), 0);
                Check.due("P19 reference 7", v.vector(0, 0, 0, 2), 7);
            }
        }
    }

    /** By list 1 of the other picture, if it has none by list 0; the picture is found in list 0. */
    private static void timeOfLists() {
        Streams s = own(sets(1, 1, 3));
        // a REFERENCE by list 1 alone: it refers to ORDER 32
        s.add(s.head(1, 1).at(3, 24).n(1, 1).data().type(2).move(60, -20).pattern(0).unit());
        s.refs = 4;
        Streams.Head h = s.head(1, 1).at(4, 20).ref(0).n(3, 1);
        h.space = 0;
        VideoSuite v = whole("by list 1", s, h.data().skipped(1));
        Check.due("P23 entry 0 of list 1", v.entry(1, 0), 24);
        int r = v.vector(0, 0, 0, 2);
        Check.due("P23 the picture it refers to", v.entry(0, r), 32);
        // p0 32, p1 24, c 20: tb -12, td -8
        int tx = (16384 + 4) / -8;
        int k = -12 * tx + 32 >> 6;
        is("by list 1", v, 0, 0, 0, k * 60 + 128 >> 8, k * -20 + 128 >> 8);
        is("by list 1, list 1", v, 0, 0, 1, (k * 60 + 128 >> 8) - 60, (k * -20 + 128 >> 8) + 20);
        // likewise by entry 1 of list 1
        Streams u = own(sets(1, 1, 3));
        u.add(u.head(1, 1).at(3, 24).n(1, 2).data().type(2).te(1, 1).move(60, -20).pattern(0).unit());
        // list 1 has ORDER 32, then 16
        u.refs = 4;
        h = u.head(1, 1).at(4, 20).ref(0).n(3, 1);
        h.space = 0;
        v = whole("by list 1, entry 1", u, h.data().skipped(1));
        Check.due("P23 entry 0 of list 1", v.entry(1, 0), 24);
        Check.due("P23 the picture it refers to", v.entry(0, v.vector(0, 0, 0, 2)), 16);
        Check.due("P19 moved", v.vector(0, 0, 0, 0) != 0 ? 1 : 0, 1);
        // the least entry of two that are this picture
        h = s.head(1, 1).at(4, 20).ref(0).n(4, 1).moves(0, 0, 1, 0, 0, 1, 0);
        h.space = 0;
        v = whole("the same picture twice", s, h.data().skipped(1));
        Check.due("P23 twice", v.entry(0, 0), v.entry(0, 2));
        Check.due("P23 it is the picture", v.entry(0, 0), 32);
        Check.due("P19 the least entry", v.vector(0, 0, 0, 2), 0);
    }

    private static void timeWithoutEntry() {
        Streams s = own(sets(1, 1, 3));
        s.add(s.head(1, 0).at(3, 48).n(3).data().type(0).te(2, 2).move(4, 4).pattern(0).unit());
        // REFS 3: the oldest is gone, the one it refers to
        Streams.Head h = s.head(1, 1).at(4, 44).ref(0).n(3, 1);
        h.space = 0;
        int place = h.data().place();
        VideoSuite v = decoded(s, h.data().skipped(1).unit());
        Check.due("the picture is gone: its kind", v.fault(0, 2), WRONG);
        Check.due("the picture is gone: its place", v.fault(0, 1), place);
        // it is there, but cut off by N
        Streams t = four();
        h = t.head(1, 1).at(4, 44).ref(0).n(1, 1);
        h.space = 0;
        fault("the picture is beyond N", t, h.data().type(0));
        h = t.head(1, 1).at(4, 44).ref(0).n(3, 1);
        h.space = 0;
        v = whole("the picture is within N", t, h.data().type(0).pattern(0));
        Check.due("P23 it is found", v.entry(0, v.vector(0, 0, 0, 2)), 0);
    }

    /** The fourth one refers to the first. */
    private static Streams four() {
        Streams s = sets(1, 1, 4).sets();
        s.add(s.head(5, 2).data().type(25).raw(1).unit());
        s.add(s.head(1, 2).at(1, 16).data().type(25).raw(2).unit());
        s.add(s.head(1, 2).at(2, 32).data().type(25).raw(3).unit());
        return s.add(s.head(1, 0).at(3, 48).n(3).data().type(0).te(2, 2).move(4, 4).pattern(0).unit());
    }

    /** tb and td -128 .. 127, k -1024 .. 1023. */
    private static void timesClamped() {
        int[][] orders = {{0, 200, 100}, {0, 127, 126}, {0, 128, 127}, {0, 1, 127}, {0, 2, 100}, {0, 1, -100},
            {0, 300, 500}, {0, 300, -500}, {400, 100, 150}, {0, 3, 13}, {0, -1, 4}, {0, 1, 4}, {0, 1, 3}};
        for (int[] o : orders) {
            Streams s = sets(1, 1, 2);
            s.lowBits = 16;
            s.sets();
            Streams.Head own = s.head(5, 2).at(0, o[0] & 65535);
            s.add(own.data().type(25).raw(1).unit());
            s.add(s.head(1, 0).at(1, o[1] & 65535).data().type(0).move(400, -333).pattern(0).unit());
            // list 1: the P first
            Streams.Head h = s.head(1, 1).at(2, o[2] & 65535).ref(0).n(2, 2).moves(1, 0, 0);
            h.space = 0;
            VideoSuite v = whole("ORDERS " + java.util.Arrays.toString(o), s, h.data().skipped(1));
            int tb = Math.max(-128, Math.min(127, o[2] - o[0]));
            int td = Math.max(-128, Math.min(127, o[1] - o[0]));
            int tx = (16384 + Math.abs(td / 2)) / td;
            int k = Math.max(-1024, Math.min(1023, tb * tx + 32 >> 6));
            Check.due("P23 entry 0 of list 1", v.entry(1, 0), o[1]);
            is("ORDERS " + java.util.Arrays.toString(o), v, 0, 0, 0, k * 400 + 128 >> 8, k * -333 + 128 >> 8);
            is("of list 1", v, 0, 0, 1, (k * 400 + 128 >> 8) - 400, (k * -333 + 128 >> 8) + 333);
        }
    }

    /** Many times and VECTORS, rounded as section 5 tells. */
    private static void timesRounded() {
        java.util.Random chance = new java.util.Random(3);
        for (int i = 0; i < 250; i++) {
            int td = 1 + chance.nextInt(i % 2 == 0 ? 12 : 127);
            int tb = chance.nextInt(4 * td) - 2 * td;
            tb = Math.max(-127, Math.min(126, tb == 0 || tb == td ? td / 2 - td : tb));
            int x = chance.nextInt(4001) - 2000;
            int y = chance.nextInt(81) - 40;
            Streams s = sets(1, 1, 2);
            s.lowBits = 16;
            s.sets().add(s.head(5, 2).data().type(25).raw(1).unit());
            s.add(s.head(1, 0).at(1, td).data().type(0).move(x, y).pattern(0).unit());
            // an ORDER below both or above both: the P is brought to the front of list 1
            Streams.Head h = s.head(1, 1).at(2, tb & 65535).ref(0).n(2, 2).moves(1, 0, 0);
            h.space = 0;
            VideoSuite v = whole("tb " + tb + ", td " + td, s, h.data().skipped(1));
            int k = Math.max(-1024, Math.min(1023, tb * ((16384 + td / 2) / td) + 32 >> 6));
            is("tb " + tb + ", td " + td, v, 0, 0, 0, k * x + 128 >> 8, k * y + 128 >> 8);
        }
    }

    /** td 0: the VECTOR as it is, and 0 0. */
    private static void timesOfTheSame() {
        Streams s = sets(1, 1, 2).sets();
        s.add(s.head(5, 2).data().type(25).raw(1).unit());
        s.add(s.head(1, 0).at(1, 0).data().type(0).move(2047, -2048).pattern(0).unit());
        Streams.Head h = s.head(1, 1).at(2, 4).ref(0).n(2, 2).moves(1, 0, 0);
        h.space = 0;
        VideoSuite v = whole("td 0", s, h.data().skipped(1));
        is("td 0", v, 0, 0, 0, 2047, -2048);
        is("td 0, list 1", v, 0, 0, 1, 0, 0);
    }

    private static int[][] noise(int wide, int high) {
        java.util.Random chance = new java.util.Random(11);
        int[][] planes = {new int[wide * high], new int[wide * high / 4], new int[wide * high / 4]};
        for (int[] p : planes) {
            for (int i = 0; i < p.length; i++) {
                p[i] = chance.nextInt(4) == 0 ? 255 * chance.nextInt(2) : chance.nextInt(256);
            }
        }
        return planes;
    }

    private static Streams noisy(Streams s, int[][] planes) {
        Data d = s.sets().head(5, 2).data();
        int wide = s.width;
        for (int mb = 0; mb < wide * s.height; mb++) {
            int[] all = new int[384];
            for (int i = 0; i < 384; i++) {
                int p = i < 256 ? 0 : i < 320 ? 1 : 2;
                int n = p == 0 ? 16 : 8;
                int k = i < 256 ? i : (i - 256) % 64;
                all[i] = planes[p][(mb / wide * n + k / n) * wide * n + mb % wide * n + k % n];
            }
            d.type(25).raw(all);
        }
        return s.add(d.unit());
    }

    private static int at(int[] plane, int wide, int x, int y) {
        int high = plane.length / wide;
        return plane[Math.max(0, Math.min(high - 1, y)) * wide + Math.max(0, Math.min(wide - 1, x))];
    }

    private static int tap(int a, int b, int c, int d, int e, int f) {
        return a - 5 * b + 20 * c + 20 * d - 5 * e + f;
    }

    private static int row(int[] p, int x, int y) {
        return tap(at(p, 32, x - 2, y), at(p, 32, x - 1, y), at(p, 32, x, y), at(p, 32, x + 1, y), at(p, 32, x + 2, y),
                at(p, 32, x + 3, y));
    }

    private static int clip(int x) {
        return x < 0 ? 0 : x > 255 ? 255 : x;
    }

    private static int half(int[] p, int x, int y, boolean isAcross) {
        int v = isAcross ? row(p, x, y) : tap(at(p, 32, x, y - 2), at(p, 32, x, y - 1), at(p, 32, x, y), at(p, 32, x, y + 1),
                at(p, 32, x, y + 2), at(p, 32, x, y + 3));
        return clip(v + 16 >> 5);
    }

    /** The sample at a place in quarters, as section 5 tells it. */
    private static int quarter(int[] p, int x4, int y4) {
        int x = x4 >> 2;
        int y = y4 >> 2;
        int g = at(p, 32, x, y);
        int b = half(p, x, y, true);
        int h = half(p, x, y, false);
        int s = half(p, x, y + 1, true);
        int m = half(p, x + 1, y, false);
        int j = clip(tap(row(p, x, y - 2), row(p, x, y - 1), row(p, x, y), row(p, x, y + 1), row(p, x, y + 2),
                row(p, x, y + 3)) + 512 >> 10);
        int[][] of = {{g, g}, {g, h}, {h, h}, {h, at(p, 32, x, y + 1)}, {g, b}, {b, h}, {h, j}, {h, s}, {b, b}, {b, j}, {j, j},
            {j, s}, {b, at(p, 32, x + 1, y)}, {b, m}, {j, m}, {s, m}};
        int[] two = of[4 * (x4 & 3) + (y4 & 3)];
        return two[0] + two[1] + 1 >> 1;
    }

    /** One piece of sixteen moves another way than the others: it shows. */
    private static void partSamples() {
        int[][] planes = noise(32, 32);
        Streams s = noisy(sets(2, 2, 1), planes);
        for (int odd = 0; odd < 16; odd++) {
            // BLOCK 1, so that its pieces are not the first ones
            Streams t = sets(2, 2, 1);
            t.bytes.writeBytes(s.bytes.toByteArray());
            Data d = t.head(1, 0).at(1, 2).off(1, 0, 0).data().type(30).raw(9).type(3).sub(3, 3, 3, 3);
            int[] now = new int[16];
            for (int b = 0; b < 16; b++) {
                int want = b == odd ? -7 : 6;
                d.move(want - quarterGuess(now, b), 0);
                now[b] = want;
            }
            VideoSuite v = t.add(d.pattern(0).unit()).object();
            v.decode(400);
            Check.due("FAULTS", v.count(4), 0);
            v.flush();
            for (int i = 0; i < 256; i += 3) {
                int x = 16 + i % 16;
                int y = i / 16;
                int b = number(i % 16 / 4, i / 64);
                Check.due("P14 piece " + odd + " apart, at " + i, v.sample(1, 0, x, y),
                        quarter(planes[0], 4 * x + (b == odd ? -7 : 6), 4 * y));
            }
            for (int i = 0; i < 64; i += 3) {
                int x = 8 + i % 8;
                int y = i / 8;
                int b = number(i % 8 / 2, i / 16);
                int x8 = 8 * x + (b == odd ? -7 : 6);
                int due = (8 - (x8 & 7)) * at(planes[1], 16, x8 >> 3, y) + (x8 & 7) * at(planes[1], 16, (x8 >> 3) + 1, y);
                Check.due("P14 chroma of piece " + odd, v.sample(1, 1, x, y), 8 * due + 32 >> 6);
            }
        }
    }

    /** Parts by both lists that differ in one thing alone: x, y, or a reference, of one list or of both. */
    private static void partsOfBoth() {
        int[][] planes = noise(32, 16);
        Streams s = noisy(sets(2, 1, 2), planes);
        Streams.Head own = s.head(1, 2).at(1, 64);
        Data d = own.data().type(25).raw(10).type(25).raw(240);
        s.add(d.unit());
        // of each part: reference, x, y by list 0, by list 1 (entry 0 of list 0 is the noisy one, of list 1 the other)
        int[][][] rows = {{{0, 5, 6, 1, 5, 6}, {0, 9, 6, 1, 11, 6}}, {{0, 5, 6, 1, 5, 6}, {0, 5, 9, 1, 5, 2}},
            {{0, 5, 6, 1, 5, 6}, {1, 5, 6, 0, 5, 6}}, {{0, 5, 6, 1, 5, 6}, {0, 5, 6, 0, 5, 6}},
            {{0, 5, 6, 1, 5, 6}, {1, 5, 6, 1, 5, 6}}, {{0, 5, 6, 1, 5, 6}, {0, 5, 6, 1, 5, 7}}};
        for (int[][] r : rows) {
            Streams t = sets(2, 1, 2);
            t.bytes.writeBytes(s.bytes.toByteArray());
            Data e = t.head(1, 1).at(2, 20).ref(0).n(2, 2).off(1, 0, 0).data().type(48).raw(9).type(20);
            e.te(1, r[0][0]).te(1, r[1][0]).te(1, r[0][3]).te(1, r[1][3]);
            // the GUESS of the upper part is 0 0 (beside I), of the lower one the upper one's VECTOR, if its reference is
            // the same, else the MEDIAN with 0 0
            for (int l = 0; l < 2; l++) {
                int k = 3 * l;
                e.move(r[0][k + 1], r[0][k + 2]);
                boolean same = r[0][k] == r[1][k];
                e.move(r[1][k + 1] - (same ? r[0][k + 1] : 0), r[1][k + 2] - (same ? r[0][k + 2] : 0));
            }
            VideoSuite v = t.add(e.pattern(0).unit()).object();
            v.decode(400);
            Check.due("FAULTS", v.count(4), 0);
            for (int part = 0; part < 2; part++) {
                for (int l = 0; l < 2; l++) {
                    is("a part by both lists", v, 1, 8 * part, l, r[part][3 * l + 1], r[part][3 * l + 2]);
                }
            }
            v.flush();
            for (int i = 0; i < 256; i += 5) {
                int x = 16 + i % 16;
                int y = i / 16;
                int[] k = r[y / 8];
                // entry 1 of list 1 is the noisy one, of list 0 the other
                int first = k[0] == 0 ? quarter(planes[0], 4 * x + k[1], 4 * y + k[2]) : flat(4 * x + k[1]);
                int second = k[3] == 1 ? quarter(planes[0], 4 * x + k[4], 4 * y + k[5]) : flat(4 * x + k[4]);
                Check.due("P14 parts by both lists at " + i, v.sample(1, 0, x, y), first + second + 1 >> 1);
            }
        }
    }

    /** The other picture: 10, then 240. */
    private static int flat(int x4) {
        int[] p = new int[32 * 16];
        for (int i = 0; i < p.length; i++) {
            p[i] = i % 32 < 16 ? 10 : 240;
        }
        return quarter(p, x4, 0);
    }

    /** All sixteen places, inside and outside the picture. */
    private static void luma() {
        int[][] planes = noise(32, 32);
        Streams s = noisy(sets(2, 2, 1), planes);
        int[] bases = {0, -40, 64, -2048, 2044};
        for (int k = 0; k < 16 * bases.length; k++) {
            int mx = bases[k / 16] + k % 4;
            int my = bases[(k / 16 + k) % bases.length] + k / 4 % 4;
            Streams t = sets(2, 2, 1);
            t.bytes.writeBytes(s.bytes.toByteArray());
            Streams.Head h = t.head(1, 0).at(1, 2).off(1, 0, 0);
            t.add(h.data().type(0).move(mx, my).pattern(0).unit());
            VideoSuite v = t.object();
            v.decode(400);
            v.flush();
            for (int i = 0; i < 256; i++) {
                Check.due("P14 moved by " + mx + ", " + my + " at " + i, v.sample(1, 0, i % 16, i / 16),
                        quarter(planes[0], 4 * (i % 16) + mx, 4 * (i / 16) + my));
            }
        }
    }

    private static void chroma() {
        int[][] planes = noise(32, 32);
        Streams s = noisy(sets(2, 2, 1), planes);
        int[][] moves = {{0, 0}, {1, 2}, {3, 7}, {-5, 4}, {6, -9}, {100, 131}, {-2048, 2047}, {2047, -2048}, {8, 16}};
        for (int[] m : moves) {
            Streams t = sets(2, 2, 1);
            t.bytes.writeBytes(s.bytes.toByteArray());
            t.add(t.head(1, 0).at(1, 2).off(1, 0, 0).data().type(0).move(m).pattern(0).unit());
            VideoSuite v = t.object();
            v.decode(400);
            v.flush();
            for (int i = 0; i < 64; i += 5) {
                for (int p = 1; p < 3; p++) {
                    int x8 = 8 * (i % 8) + m[0];
                    int y8 = 8 * (i / 8) + m[1];
                    int x = x8 >> 3;
                    int y = y8 >> 3;
                    int dx = x8 & 7;
                    int dy = y8 & 7;
                    int due = (8 - dx) * (8 - dy) * at(planes[p], 16, x, y) + dx * (8 - dy) * at(planes[p], 16, x + 1, y)
                            + (8 - dx) * dy * at(planes[p], 16, x, y + 1) + dx * dy * at(planes[p], 16, x + 1, y + 1) + 32
                            >> 6;
                    Check.due("P14 chroma moved by " + m[0] + ", " + m[1], v.sample(1, p, i % 8, i / 8), due);
                }
            }
        }
    }

    /** P: w, o and d by plane; d 0 without rounding; CLIP at both ends. */
    private static void plainWeights() {
        int[][] rows = {{0, 2, 5}, {0, -1, 7}, {0, 127, 0}, {1, 3, -8}, {5, 32, 0}, {7, 127, 127}, {7, -128, -128}, {3, 8, 127},
            {2, 5, -128}, {4, -3, 100}};
        for (int[] r : rows) {
            Streams s = new Streams();
            s.weighted = 1;
            s.sets().add(s.head(5, 2).raw(100, 51, 202));
            Bits b = new Bits().ue(0).ue(0).ue(0).u(4, 1).u(4, 2).u(1, 0).u(1, 0).ue(r[0]).ue(r[0]);
            b.u(1, 1).se(r[1]).se(r[2]).u(1, 1).se(r[1]).se(r[2]).se(-r[1] < -128 || -r[1] > 127 ? 7 : -r[1]).se(3);
            b.u(1, 0).se(0).ue(1).ue(1);
            Streams t = new Streams();
            t.bytes.writeBytes(s.bytes.toByteArray());
            VideoSuite v = t.add(b.unit(0x21)).object();
            v.decode(400);
            v.flush();
            Check.due("WEIGHTS: FAULTS", v.count(4), 0);
            int w2 = -r[1] < -128 || -r[1] > 127 ? 7 : -r[1];
            Check.due("P14 luma by d " + r[0], v.sample(1, 0, 3, 3), weighted(100, r[0], r[1], r[2]));
            Check.due("P14 chroma 1 by d " + r[0], v.sample(1, 1, 3, 3), weighted(51, r[0], r[1], r[2]));
            Check.due("P14 chroma 2 by d " + r[0], v.sample(1, 2, 3, 3), weighted(202, r[0], w2, 3));
        }
    }

    private static int weighted(int s, int d, int w, int o) {
        return d > 0 ? clip((s * w + (1 << d - 1) >> d) + o) : clip(s * w + o);
    }

    /** B, both 1: two lists, one list; what isn't told is 2^a, 0. */
    private static void bothWeights() {
        int[][] rows = {{0, 1, 0, 1, 0}, {0, 1, 1, 1, 0}, {5, 20, -7, 40, 4}, {7, 127, 127, 127, 127}, {7, -128, 0, 127, -1},
            {3, 8, -128, 8, -128}, {2, 3, 5, 6, -10}, {6, 64, -1, 64, -2}};
        for (int[] r : rows) {
            for (int type = 1; type < 4; type++) {
                Streams s = sets(1, 1, 2);
                s.both = 1;
                s.sets().add(s.head(5, 2).raw(100, 51, 202)).add(s.head(1, 2).at(1, 16).raw(180, 20, 61));
                Bits b = new Bits().ue(0).ue(1).ue(0).u(4, 2).u(8, 4).u(1, 1).u(1, 0).u(2, 0).ue(r[0]).ue(r[0]);
                b.u(1, 1).se(r[1]).se(r[2]).u(1, 0).u(1, 1).se(r[3]).se(r[4]).u(1, 0);
                b.se(0).ue(1).ue(0).ue(type).se(0).se(0);
                (type == 3 ? b.se(0).se(0) : b).ue(0);
                VideoSuite v = s.add(b.unit(0x01)).object();
                v.decode(400);
                v.flush();
                Check.due("WEIGHTS of B: FAULTS", v.count(4), 0);
                int two = clip((100 * r[1] + 180 * r[3] + (1 << r[0]) >> r[0] + 1) + (r[2] + r[4] + 1 >> 1));
                Check.due("P14 luma by d " + r[0] + ", type " + type, v.sample(1, 0, 3, 3), type == 3 ? two
                        : type == 1 ? weighted(100, r[0], r[1], r[2]) : weighted(180, r[0], r[3], r[4]));
                Check.due("P14 chroma is plain", v.sample(1, 2, 3, 3), type == 3 ? 132 : type == 1 ? 202 : 61);
            }
        }
    }

    /** B, both 2: by time; k >> 2 outside -64 .. 128, td 0, a LONG one: the MEAN; one list: plain. */
    private static void weightsByTime() {
        int[][] orders = {{0, 16, 4}, {0, 16, 12}, {0, 100, 200}, {0, 100, 201}, {0, 100, -100}, {0, 100, -101}, {0, 64, 128},
            {0, 64, -64}, {0, 64, 129}, {0, 64, -65}, {0, 200, 100}, {0, 3, 1}, {50, 20, 30}, {0, 0, 5},
            {0, 62, 124}, {0, 62, 125}, {0, 62, -62}, {0, 62, -63}};
        for (int[] o : orders) {
            for (int isLong = 0; isLong < 2; isLong++) {
                Streams s = sets(1, 1, 2);
                s.lowBits = 16;
                s.both = 2;
                s.sets();
                Streams.Head own = s.head(5, 2).at(0, o[0]);
                own.isLong = isLong;
                s.add(own.raw(10, 51, 202)).add(s.head(1, 2).at(1, o[1]).raw(250, 20, 61));
                Streams.Head h = s.head(1, 1).at(2, o[2] & 65535).ref(0).n(2, 2).off(1, 0, 0);
                // both lists as they stand: the SHORT one by its FRAME, the other one by number or FRAME
                h.moves(0, isLong == 1 ? 2 : 0, isLong == 1 ? 0 : 1).moves(1, 0, 0);
                Data d = h.data().type(3).te(1, 0).te(1, 0).move(0, 0, 0, 0).pattern(0);
                Streams t = new Streams();
                t.bytes.writeBytes(s.bytes.toByteArray());
                VideoSuite v = t.add(d.unit()).object();
                v.decode(400);
                Check.due("by time: FAULTS", v.count(4), 0);
                Check.due("P23 list 0", v.entry(0, 0), o[0]);
                Check.due("P23 list 1", v.entry(1, 0), o[1]);
                v.flush();
                int tb = Math.max(-128, Math.min(127, o[2] - o[0]));
                int td = Math.max(-128, Math.min(127, o[1] - o[0]));
                int w = 32;
                if (td != 0 && isLong == 0) {
                    int tx = (16384 + Math.abs(td / 2)) / td;
                    int k = Math.max(-1024, Math.min(1023, tb * tx + 32 >> 6)) >> 2;
                    w = k < -64 || k > 128 ? 32 : k;
                }
                int[] first = {10, 51, 202};
                int[] second = {250, 20, 61};
                int out = 0;
                for (int k = 0; k < 3; k++) {
                    out = v.picture(k, 3) == 1 ? k : out;
                }
                for (int p = 0; p < 3; p++) {
                    Check.due("P14 by time " + java.util.Arrays.toString(o) + ", LONG " + isLong + ", plane " + p,
                            v.sample(out, p, 2, 2), clip(first[p] * (64 - w) + second[p] * w + 32 >> 6));
                }
            }
        }
        Streams s = sets(1, 1, 2);
        s.both = 2;
        s.sets().add(s.head(5, 2).raw(10, 51, 202)).add(s.head(1, 2).at(1, 16).raw(250, 20, 61));
        s.add(s.head(1, 1).at(2, 4).ref(0).off(1, 0, 0).data().type(2).move(0, 0).pattern(0).unit());
        VideoSuite v = s.object();
        v.decode(400);
        v.flush();
        Check.due("P14 one list: plain", v.sample(1, 0, 0, 0), 250);
    }

    /** Both 2 behind both 1: what was told there has no use here. */
    private static void weightsBehindOthers() {
        Streams s = sets(1, 1, 2);
        s.both = 1;
        s.sets();
        s.both = 2;
        s.add(s.parameters(1, 0)).add(s.head(5, 2).raw(10, 51, 202)).add(s.head(1, 2).at(1, 16).raw(250, 20, 61));
        s.both = 1;
        Streams.Head h = s.head(1, 1).at(2, 4).ref(0).off(1, 0, 0);
        h.weights = new int[] {3, 4, 20, 100, 9, -100};
        s.add(h.data().type(3).move(0, 0, 0, 0).pattern(0).unit());
        h = s.head(1, 1).at(2, 12).ref(0).off(1, 0, 0);
        h.pars = 1;
        VideoSuite v = s.add(h.data().type(3).move(0, 0, 0, 0).pattern(0).unit()).object();
        v.decode(400);
        Check.due("FAULTS", v.count(4), 0);
        v.flush();
        Check.due("P13 ORDER", v.picture(2, 2), 12);
        Check.due("P14 three quarters of the way", v.sample(2, 0, 3, 3), 10 * 16 + 250 * 48 + 32 >> 6);
    }
}
