import java.util.Random;

/** Section 7: REPAIR, TRUSTED, STRENGTHS, and edges filtered. */
public final class EndTest {
    public static void main(String[] args) {
        endsWith();
        mendWays();
        mendedOnes();
        mendInOrder();
        mendByEnded();
        mendByMoves();
        trusted();
        trustedByEntries();
        ownRules();
        strengthOfI();
        strengthOfTotals();
        strengthOfOne();
        strengthOfPictures();
        strengthOfTwo();
        strengthOfDirect();
        thresholds();
        eachThreshold();
        eachSoft();
        filtered();
        Check.end();
    }

    private static Streams sets(int wide, int high, int refs) {
        Streams s = new Streams().size(wide, high);
        s.refs = refs;
        s.lowBits = 8;
        return s;
    }

    private static Streams copy(Streams s) {
        Streams t = new Streams().size(s.width, s.height);
        t.refs = s.refs;
        t.lowBits = s.lowBits;
        t.bytes.writeBytes(s.bytes.toByteArray());
        return t;
    }

    private static VideoSuite decoded(Streams s) {
        VideoSuite v = s.object();
        v.decode(400);
        return v;
    }

    private static VideoSuite ended(Streams s, int way) {
        VideoSuite v = s.object();
        v.repair(way);
        v.decode(400);
        v.flush();
        return v;
    }

    private static Data raws(Data d, int one, int[] more) {
        return raws(raws(d, one), more);
    }

    private static Data raws(Data d, int... luma) {
        for (int l : luma) {
            d.type(25).raw(l, l + 1, l + 2);
        }
        return d;
    }

    /** A PICTURE ends with the next one, with SETS (also broken ones) or by flush, and with no other UNIT. */
    private static void endsWith() {
        Streams s = sets(1, 1, 1).sets();
        s.add(raws(s.head(5, 2).data(), 7).unit());
        int[] leads = {0x00, 0x02, 0x03, 0x04, 0x06, 0x09, 0x1f, 0x87, 0x88, 0xe7, 0xe5, 0x81, 0x67, 0x68, 0x07, 0x08};
        for (int lead : leads) {
            VideoSuite v = decoded(copy(s).add(Streams.bytes(lead, 0x12)));
            int type = lead > 127 ? 0 : lead & 31;
            boolean ends = type == 7 || type == 8;
            Check.due("P11 under way behind " + lead, v.count(6), ends ? 0 : 1);
            Check.due("P24 FAULTS behind " + lead, v.count(4), ends ? 1 : 0);
            Check.due("P11 a UNIT of " + lead + " is decoded", v.count(2), 4);
        }
        // a HEADER that is not whole ends nothing
        VideoSuite v = decoded(copy(s).add(new Bits().ue(0).ue(2).ue(1).u(9, 0).unit(0x21)));
        Check.due("P11 a broken HEADER", v.count(6), 1);
        Check.due("P24 a broken HEADER", v.count(4), 1);
    }

    /** The way that is set when the PICTURE ends. */
    private static void mendWays() {
        Streams s = sets(2, 1, 1).sets();
        for (int i = 0; i < 4; i++) {
            Streams.Head h = s.head(5, 2).at(0, i);
            h.ownId = i;
            s.add(raws(h.data(), 50 + i).unit());
        }
        VideoSuite v = s.object();
        int[] ways = {2, 1, 0, 2};
        v.decode(3);
        for (int i = 0; i < 4; i++) {
            v.repair(ways[i]);
            v.decode(1);
            v.repair(3);
        }
        v.repair(ways[3]);
        v.flush();
        int[] due = {50, 50, 128, 53};
        for (int k = 0; k < 4; k++) {
            Check.due("P10 the way set then, " + k, v.sample(k, 0, 20, 5), due[k]);
        }
        Check.due("P41 in all", v.count(14), 4);
    }

    private static void mendedOnes() {
        Streams s = sets(2, 2, 1).sets();
        s.add(raws(s.head(5, 2).from(1).data(), 50, 60).unit());
        VideoSuite v = decoded(s);
        int[] before = {-1, -1, 0, 0, 0, 0, -1};
        int[] after = {4, -1, 0, 0, 0, 0, -1};
        for (int mb = 0; mb < 4; mb += 3) {
            for (int what = 0; what < 7; what++) {
                Check.due("P18 missing, what " + what, v.block(mb, what), before[what]);
            }
        }
        v.flush();
        for (int mb = 0; mb < 4; mb += 3) {
            for (int what = 0; what < 7; what++) {
                Check.due("P18 REPAIRED, what " + what, v.block(mb, what), after[what]);
            }
            for (int b = 0; b < 16; b++) {
                Check.due("P18 REPAIRED, mode", v.block(mb, 8 + b), 2);
                Check.due("P19 REPAIRED, reference", v.vector(mb, b, 0, 2), -1);
                Check.due("P21 REPAIRED, inside", b % 2 == 1 ? v.edge(mb, b, 0) : 3, 3);
            }
        }
        Check.due("P13 how many", v.picture(0, 6), 2);
        Check.due("P41 how many", v.count(14), 2);
        Check.due("P21 beside one REPAIRED", v.edge(1, 0, 0), 4);
        v.anew();
        Check.due("P9 none REPAIRED", v.count(14), 0);
        v.decode(400);
        v.flush();
        Check.due("P41 how many again", v.count(14), 2);
    }

    /** BLOCKS in their order: a REPAIRED one is a side for the next. */
    private static void mendInOrder() {
        Streams s = sets(3, 2, 1).sets();
        s.add(raws(s.head(5, 2).data(), 90).unit());
        VideoSuite v = ended(s, 2);
        for (int mb = 1; mb < 6; mb++) {
            Check.due("P10 all as the first, BLOCK " + mb, v.sample(0, 0, mb % 3 * 16 + 7, mb / 3 * 16 + 9), 90);
            Check.due("P10 chroma as the first, BLOCK " + mb, v.sample(0, 2, mb % 3 * 8 + 7, mb / 3 * 8 + 1), 92);
        }
        v = ended(sets(3, 2, 1).sets().add(raws(s.head(5, 2).from(5).data(), 90).unit()), 2);
        for (int mb = 0; mb < 5; mb++) {
            Check.due("P10 no side: 128, BLOCK " + mb, v.sample(0, 0, mb % 3 * 16 + 7, mb / 3 * 16 + 9), 128);
        }
        for (int way = 0; way < 4; way++) {
            v = ended(s, way);
            Check.due("P10 none ended before, way " + way, v.sample(0, 0, 40, 20), way == 2 ? 90 : 128);
            Check.due("P10 none ended before, way " + way, v.sample(0, 1, 20, 9), way == 2 ? 91 : 128);
        }
    }

    /** The PICTURE that ended before it: also one that is no REFERENCE, or not stored any more. */
    private static void mendByEnded() {
        Streams s = sets(2, 1, 1).sets();
        s.add(raws(s.head(5, 2).data(), 50, 60).unit()).add(raws(s.head(1, 2).at(1, 2).ref(0).data(), 70, 80).unit());
        s.add(raws(s.head(1, 2).at(1, 4).data(), 90).unit());
        int[] ways = {1, 3};
        for (int way : ways) {
            VideoSuite v = ended(s, way);
            Check.due("P10 by one that is no REFERENCE, way " + way, v.sample(2, 0, 20, 5), 80);
        }
        // not by one made up, and by what was REPAIRED itself
        Streams t = sets(2, 1, 1);
        t.gaps = 1;
        t.sets().add(raws(t.head(5, 2).data(), 50, 60).unit()).add(raws(t.head(1, 2).at(1, 2).ref(0).data(), 70, 80).unit());
        t.add(raws(t.head(1, 2).at(4, 4).data(), 90).unit()).add(raws(t.head(1, 2).at(5, 6).data(), 95).unit());
        VideoSuite v = ended(t, 1);
        Check.due("P10 not by one made up", v.sample(2, 0, 20, 5), 80);
        Check.due("P10 by one REPAIRED", v.sample(3, 0, 20, 5), 80);
    }

    /** Way 3: the VECTOR by list 0 of the BLOCK above, else left, rounded to whole samples. */
    private static void mendByMoves() {
        Streams s = sets(2, 2, 2).sets();
        Data d = s.head(5, 2).data();
        for (int mb = 0; mb < 4; mb++) {
            int[] all = new int[384];
            for (int i = 0; i < 384; i++) {
                int n = i < 256 ? 16 : 8;
                int k = i < 256 ? i : (i - 256) % 64;
                all[i] = 3 * (mb % 2 * n + k % n) + 4 * (mb / 2 * n + k / n);
            }
            d.type(25).raw(all);
        }
        s.add(d.unit());
        int[][] moves = {{1, 1}, {2, -2}, {-3, 5}, {6, -6}, {-7, 10}, {4, 4}, {12, -20}, {-2, -3}};
        for (int[] m : moves) {
            VideoSuite v = ended(copy(s).add(s.head(1, 0).at(1, 2).off(1, 0, 0).data().type(0).move(m).pattern(0).unit()), 3);
            for (int mb = 1; mb < 3; mb++) {
                for (int i = 0; i < 8; i++) {
                    int x = mb % 2 * 16 + i;
                    int y = mb / 2 * 16 + 7 - i;
                    int due = 3 * inside(x + (m[0] + 2 >> 2), 31) + 4 * inside(y + (m[1] + 2 >> 2), 31);
                    Check.due("P10 luma by " + m[0] + ", " + m[1], v.sample(1, 0, x, y), due);
                    x = mb % 2 * 8 + i;
                    y = mb / 2 * 8 + 7 - i;
                    due = 3 * inside(x + (m[0] + 4 >> 3), 15) + 4 * inside(y + (m[1] + 4 >> 3), 15);
                    Check.due("P10 chroma by " + m[0] + ", " + m[1], v.sample(1, 1, x, y), due);
                }
            }
            // the one above the last is REPAIRED: 0 0, though the left one isn't tried
            Check.due("P10 below one REPAIRED", v.sample(1, 0, 20, 25), 3 * 20 + 4 * 25);
        }
        // the way alone tells whether it is moved
        for (int way = 0; way < 3; way++) {
            VideoSuite v = ended(copy(s).add(s.head(1, 0).at(1, 2).off(1, 0, 0).data().type(0).move(40, 20).pattern(0).unit()), way);
            int due = way == 0 ? 128 : way == 1 ? 3 * 20 + 4 * 5 : v.sample(1, 0, 15, 5);
            Check.due("P10 by way " + way, v.sample(1, 0, 20, 5), due);
        }
        // the BLOCK above, and not the one at the left, in a row of three, of reference 1, too
        for (int r = 0; r < 2; r++) {
            Streams u = sets(3, 2, 2).sets();
            for (int frame = 0; frame < 2; frame++) {
                Data w = (frame == 0 ? s.head(5, 2) : s.head(1, 2).at(1, 2)).off(1, 0, 0).data();
                for (int mb = 0; mb < 6; mb++) {
                    w.type(25).raw(20 * mb + 100 * frame, 7, 8);
                }
                u.add(w.unit());
            }
            Data w = s.head(1, 0).at(2, 4).off(1, 0, 0).n(2).data();
            w.skipped(1).type(0).te(1, r).move(64, 0).pattern(0).type(0).te(1, r).move(-128, 0).pattern(0);
            w.type(0).te(1, r).move(0, 64).pattern(0);
            VideoSuite v = ended(u.add(w.unit()), 3);
            Check.due("P24 FAULTS", v.count(4), 0);
            // BLOCK 4 by BLOCK 1, BLOCK 5 by BLOCK 2
            for (int mb = 4; mb < 6; mb++) {
                int x = mb % 3 * 16 + 8;
                int to = Math.max(0, Math.min(47, x + (v.vector(mb - 3, 15, 0, 0) + 2 >> 2)));
                int down = Math.min(31, 24 + (v.vector(mb - 3, 15, 0, 1) + 2 >> 2));
                Check.due("P10 BLOCK " + mb + " by the one above, reference " + r, v.sample(2, 0, x, 24),
                        20 * (down / 16 * 3 + to / 16) + 100);
            }
        }
        // none above, none at the left: as it is in the PICTURE before
        VideoSuite first = ended(copy(s).add(s.head(1, 0).at(1, 2).from(1).off(1, 0, 0).data().type(0).move(40, 40).pattern(0)
                .unit()), 3);
        Check.due("P10 the first BLOCK", first.sample(1, 0, 6, 7), 3 * 6 + 4 * 7);
        // its last piece counts; by list 1 alone: 0 0
        d = s.head(1, 0).at(1, 2).off(1, 0, 0).data().type(3).sub(0, 0, 0, 3);
        d.move(40, 0, 0, 0, 0, 0, 0, 0, 0, 0, 0, 0, -12, 24);
        VideoSuite v = decoded(copy(s).add(d.pattern(0).unit()));
        int x = v.vector(0, 15, 0, 0) + 2 >> 2;
        int y = v.vector(0, 15, 0, 1) + 2 >> 2;
        v.repair(3);
        v.flush();
        Check.due("P10 by piece 15", v.sample(1, 0, 20, 5), 3 * (20 + x) + 4 * inside(5 + y, 31));
        Streams t = copy(s).add(s.head(1, 0).at(1, 40).data().skipped(4).unit());
        t.add(s.head(1, 1).at(2, 20).ref(0).off(1, 0, 0).data().type(2).move(40, 40).pattern(0).unit());
        v = ended(t, 3);
        Check.due("P10 by list 1 alone", v.sample(1, 0, 20, 5), 3 * 20 + 4 * 5);
    }

    private static int inside(int x, int most) {
        return Math.max(0, Math.min(most, x));
    }

    private static void trusted() {
        Streams s = sets(2, 1, 1).sets();
        s.add(raws(s.head(5, 2).data(), 50).unit());
        s.add(s.head(1, 0).at(1, 2).data().skipped(2).unit());
        s.add(raws(s.head(1, 2).at(2, 4).data(), 90, 95).unit());
        s.add(s.head(1, 0).at(3, 6).data().skipped(2).unit());
        VideoSuite v = ended(s, 0);
        int[] due = {0, 0, 1, 1};
        for (int k = 0; k < 4; k++) {
            Check.due("P13 trusted, OUTPUT " + k, v.picture(k, 5), due[k]);
        }
        Check.due("P22 trusted", v.stored(0, 6), 1);
    }

    /** Only entries that BLOCKS refer to, by any list and any of their pieces. */
    private static void trustedByEntries() {
        Streams s = sets(2, 1, 2).sets();
        s.add(raws(s.head(5, 2).data(), 50, 60).unit()).add(raws(s.head(1, 2).at(1, 40).data(), 70).unit());
        for (int r = 0; r < 2; r++) {
            Data d = s.head(1, 0).at(2, 50).n(2).data().type(0).te(1, r).move(0, 0).pattern(0).type(30).raw(1);
            VideoSuite v = ended(copy(s).add(d.unit()), 1);
            Check.due("P13 trusted by reference " + r, v.picture(2, 5), r);
            d = s.head(1, 0).at(2, 50).n(2).data().type(30).raw(1).type(3).sub(0, 0, 0, 0).te(1, 1).te(1, 1).te(1, 1).te(1, r)
                    .move(0, 0, 0, 0, 0, 0, 0, 0).pattern(0);
            v = ended(copy(s).add(d.unit()), 1);
            Check.due("P13 trusted by the last quarter, " + r, v.picture(2, 5), r);
            // entry 1 is trusted, or not
            Streams u = sets(2, 1, 2).sets();
            u.add(raws(s.head(5, 2).data(), 50, r == 0 ? new int[0] : new int[] {60}).unit());
            u.add(raws(s.head(1, 2).at(1, 40).data(), 70, 80).unit());
            d = s.head(1, 0).at(2, 50).n(2).data().type(0).te(1, 1).move(0, 0).pattern(0).type(30).raw(1);
            Check.due("P13 trusted by reference 1, " + r, ended(u.add(d.unit()), 1).picture(2, 5), r);
            // B: list 0 begins with ORDER 0, list 1 with 40
            d = s.head(1, 1).at(2, 20).ref(0).data().type(1 + r).move(0, 0).pattern(0).type(48).raw(1);
            v = ended(copy(s).add(d.unit()), 1);
            Check.due("P13 trusted by list " + r, v.picture(1, 5), 1 - r);
        }
        VideoSuite v = ended(copy(s).add(s.head(1, 1).at(2, 20).ref(0).data().skipped(2).unit()), 1);
        Check.due("P13 DIRECT refers to both", v.picture(1, 5), 0);
    }

    /** off, A and B are those of the SLICE of the BLOCK behind the edge. */
    private static void ownRules() {
        for (int first = 0; first < 3; first++) {
            for (int second = 0; second < 3; second++) {
                Streams s = sets(2, 2, 1).sets();
                s.add(raws(s.head(5, 2).off(first, 0, 0).data(), 50, 60).unit());
                s.add(raws(s.head(5, 2).from(2).off(second, 0, 0).data(), 70, 80).unit());
                VideoSuite v = ended(s, 0);
                String what = "P21 off " + first + " above off " + second;
                Check.due(what + ", inside above", v.edge(0, 1, 0), first == 1 ? 0 : 3);
                Check.due(what + ", between above", v.edge(1, 0, 0), first == 1 ? 0 : 4);
                Check.due(what + ", from SLICE to SLICE", v.edge(2, 0, 1), second == 0 ? 4 : 0);
                Check.due(what + ", between below", v.edge(3, 2, 0), second == 1 ? 0 : 4);
                Check.due(what + ", inside below", v.edge(3, 15, 1), second == 1 ? 0 : 3);
                Check.due(what + ", at the end", v.edge(2, 0, 0) + v.edge(0, 4, 1), 0);
            }
        }
        // a REPAIRED one is as off 0; to it off 2 is another SLICE
        Streams s = sets(2, 2, 1).sets();
        s.add(raws(s.head(5, 2).off(1, 0, 0).data(), 50).unit()).add(raws(s.head(5, 2).from(3).off(2, 0, 0).data(), 80).unit());
        VideoSuite v = ended(s, 0);
        Check.due("P21 from off 1 to one REPAIRED", v.edge(1, 0, 0), 4);
        Check.due("P21 in one REPAIRED", v.edge(2, 3, 1), 3);
        Check.due("P21 from one REPAIRED to off 2", v.edge(3, 0, 0), 0);
        Check.due("P21 from one REPAIRED to off 2", v.edge(3, 4, 1), 0);
    }

    /** A Picture of 2 by 2: OWN, then P of these BLOCKS. */
    private static Streams base(int refs) {
        Streams s = sets(2, 2, refs).sets();
        s.add(raws(s.head(5, 2).data(), 50, 60, 70, 80).unit());
        for (int i = 1; i < refs; i++) {
            s.add(raws(s.head(1, 2).at(i, 16 * i).data(), 50, 60, 70, 80).unit());
        }
        return s;
    }

    private static void strengthOfI() {
        Streams s = base(1);
        Data d = s.head(1, 0).at(1, 2).data().skipped(1).type(5 + 3).colours(0).more(0).token("1").skipped(2);
        VideoSuite v = ended(s.add(d.unit()), 0);
        Check.due("P21 p not I, q I", v.edge(1, 0, 0), 4);
        Check.due("P21 p I, q not", v.edge(3, 1, 1), 4);
        Check.due("P21 inside I", v.edge(1, 1, 0), 3);
        Check.due("P21 inside I, level", v.edge(1, 8, 1), 3);
        Check.due("P21 none I", v.edge(2, 0, 1), 0);
        Check.due("P21 inside, not I", v.edge(3, 3, 0), 0);
    }

    /** TOTAL of luma alone counts, of p or of q. */
    private static void strengthOfTotals() {
        Streams s = base(1);
        // code 2 of the second row: luma pattern 1; 1: chroma 1; 6: chroma 2
        Data d = s.head(1, 0).at(1, 2).data().type(0).move(0, 0).pattern(2).more(0);
        Codes.ones(d, 0, 16, 0);
        Codes.ones(d, 0, 16, 0);
        Codes.ones(d, 0, 16, 0);
        Codes.ones(d, 0, 16, 2);
        VideoSuite v = ended(copy(s).add(d.skipped(3).unit()), 0);
        for (int b = 0; b < 16; b++) {
            for (int way = 0; way < 2; way++) {
                boolean isOut = way == 0 ? b % 2 == 0 && b / 4 % 2 == 0 : b < 2 || b == 4 || b == 5;
                // piece 3, and those behind it: 6 at the right, 9 below
                boolean isTwo = b == 3 || b == 6 && way == 0 || b == 9 && way == 1;
                Check.due("P21 TOTAL of piece 3, at " + b + " way " + way, v.edge(0, b, way), isOut ? 0 : isTwo ? 2 : 0);
            }
        }
        d = s.head(1, 0).at(1, 2).data().type(0).move(0, 0).pattern(6).more(0);
        Codes.ones(d, 4, 4, 2);
        Codes.ones(d, 4, 4, 1);
        for (int i = 0; i < 8; i++) {
            Codes.ones(d, i == 1 || i == 2 ? 1 : 0, 15, i == 0 ? 2 : 0);
        }
        v = ended(copy(s).add(d.skipped(3).unit()), 0);
        for (int b = 0; b < 16; b++) {
            Check.due("P21 chroma's do not count", v.edge(0, b, 0) + v.edge(1, b, 0), 0);
        }
        // from BLOCK to BLOCK 2 as well
        d = s.head(1, 0).at(1, 2).data().type(0).move(0, 0).pattern(3).more(0);
        for (int i = 0; i < 4; i++) {
            Codes.ones(d, 0, 16, i == 1 ? 1 : 0);
        }
        v = ended(copy(s).add(d.skipped(3).unit()), 0);
        Check.due("P21 TOTAL of p", v.edge(1, 0, 0), 2);
        Check.due("P21 beside it", v.edge(1, 2, 0), 0);
    }

    /** One LEVEL in one piece of 2 by 2 BLOCKS: 2 at its edges, and at those behind it. */
    private static void strengthOfOne() {
        Streams s = base(1);
        for (int one = 0; one < 64; one++) {
            Data d = s.head(1, 0).at(1, 2).data().skipped(one / 16).type(0).move(0, 0).pattern(2 + one / 4 % 4).more(0);
            for (int i = 0; i < 4; i++) {
                Codes.ones(d, 0, 16, i == one % 4 ? 1 : 0);
            }
            VideoSuite v = ended(copy(s).add(d.skipped(3 - one / 16).unit()), 0);
            Check.due("P24 FAULTS", v.count(4), 0);
            for (int i = 0; i < 128; i++) {
                int q = i / 2;
                int x = column(q) - (i % 2 == 0 ? 1 : 0);
                int y = row(q) - i % 2;
                boolean isOut = x < 0 || y < 0;
                boolean isTwo = q == one || x == column(one) && y == row(one);
                Check.due("P21 a LEVEL of piece " + one + ", at " + q + " way " + i % 2, v.edge(q / 16, q % 16, i % 2),
                        isTwo && !isOut ? 2 : 0);
            }
        }
    }

    /** Where a piece stands in 2 by 2 BLOCKS, in pieces. */
    private static int column(int piece) {
        return piece / 16 % 2 * 4 + piece / 4 % 2 * 2 + piece % 2;
    }

    private static int row(int piece) {
        return piece / 32 * 4 + piece / 8 % 2 * 2 + piece / 2 % 2;
    }

    private static Data pair(Streams s, int n, int[] a, int[] b) {
        // the GUESS of the second one is the first one's VECTOR
        Data d = s.head(1, 0).at(s.refs, 4).n(n).data().type(0);
        (n > 1 ? d.te(n - 1, a[0]) : d).move(a[1], a[2]).pattern(0).type(0);
        (n > 1 ? d.te(n - 1, b[0]) : d).move(b[1] - a[1], b[2] - a[2]).pattern(0);
        return d.skipped(2);
    }

    private static void strengthOfPictures() {
        Streams s = base(2);
        int[][][] rows = {{{0, 0, 0}, {0, 3, -3}}, {{0, 0, 0}, {0, 4, 0}}, {{0, 0, 0}, {0, 0, -4}}, {{0, 8, 8}, {0, 5, 11}},
            {{0, 8, 8}, {0, 4, 8}}, {{0, 8, 8}, {0, 8, 12}}, {{0, 0, 0}, {1, 0, 0}}, {{1, 9, 9}, {1, 9, 9}}};
        int[] due = {0, 1, 1, 0, 1, 1, 1, 0};
        for (int i = 0; i < rows.length; i++) {
            VideoSuite v = ended(copy(s).add(pair(s, 2, rows[i][0], rows[i][1]).unit()), 0);
            Check.due("P24 FAULTS", v.count(4), 0);
            for (int b = 0; b < 16; b++) {
                boolean isLeft = b % 2 == 0 && b / 4 % 2 == 0;
                Check.due("P21 pair " + i + ", piece " + b, v.edge(1, b, 0), isLeft ? due[i] : 0);
            }
        }
        // two entries that are the same picture are no other pictures
        Streams.Head h = s.head(1, 0).at(2, 4).n(2).moves(0, 0, 0, 0, 15);
        Data d = h.data().type(0).te(1, 0).move(0, 0).pattern(0).type(0).te(1, 1).move(0, 0).pattern(0).skipped(2);
        VideoSuite v = ended(copy(s).add(d.unit()), 0);
        Check.due("P21 one picture, two entries", v.edge(1, 0, 0), 0);
        Check.due("P19 two entries", v.vector(1, 0, 0, 2), 1);
        // inside a BLOCK: parts of other VECTORS
        d = s.head(1, 0).at(2, 4).n(1).data().type(2).move(0, 0, 4, 0).pattern(0).type(1).move(0, 0, 0, 4).pattern(0).skipped(2);
        v = ended(copy(s).add(d.unit()), 0);
        Check.due("P21 between parts", v.edge(0, 4, 0), 1);
        Check.due("P21 in a part", v.edge(0, 5, 0), 0);
        Check.due("P21 between parts, level", v.edge(1, 8, 1), v.vector(1, 8, 0, 1) - v.vector(1, 0, 0, 1) > 3 ? 1 : 0);
    }

    /** B: references and VECTORS by both lists; list 0 is ORDER 0, 48, list 1 is 48, 0. */
    private static VideoSuite two(int[] a, int[] b) {
        Streams s = sets(2, 1, 2).sets();
        s.add(raws(s.head(5, 2).data(), 50, 60).unit()).add(raws(s.head(1, 2).at(1, 48).data(), 50, 60).unit());
        Data d = s.head(1, 1).at(2, 20).ref(0).n(2, 2).data();
        int[][] all = {a, b};
        VideoSuite v = null;
        int[][] more = new int[2][];
        for (int mb = 0; mb < 2; mb++) {
            int[] k = all[mb];
            // a list without: reference -1
            int type = k[0] >= 0 && k[3] >= 0 ? 3 : k[0] >= 0 ? 1 : 2;
            d.type(type);
            for (int l = 0; l < 2; l++) {
                if (k[3 * l] >= 0) {
                    d.te(1, k[3 * l]);
                }
            }
            for (int l = 0; l < 2; l++) {
                if (k[3 * l] >= 0) {
                    // the GUESS of the second one: the first one's VECTOR by that list, or 0 0
                    boolean has = mb == 1 && a[3 * l] >= 0;
                    d.move(k[3 * l + 1] - (has ? a[3 * l + 1] : 0), k[3 * l + 2] - (has ? a[3 * l + 2] : 0));
                }
            }
            d.pattern(0);
        }
        v = ended(s.add(d.unit()), 0);
        Check.due("P24 FAULTS", v.count(4), 0);
        for (int mb = 0; mb < 2; mb++) {
            for (int l = 0; l < 2; l++) {
                Check.due("P19 reference", v.vector(mb, 0, l, 2), all[mb][3 * l]);
                Check.due("P19 x", v.vector(mb, 0, l, 0), all[mb][3 * l] < 0 ? 0 : all[mb][3 * l + 1]);
            }
        }
        return v;
    }

    private static void strengthOfTwo() {
        int n = -1;
        int[][][] rows = {
            // one each: the same picture by another list, near, far
            {{0, 5, 5, n, 0, 0}, {n, 0, 0, 1, 6, 6}, {0}}, {{0, 5, 5, n, 0, 0}, {n, 0, 0, 1, 9, 5}, {1}},
            {{0, 5, 5, n, 0, 0}, {n, 0, 0, 0, 5, 5}, {1}},
            // another number
            {{0, 5, 5, 0, 5, 5}, {0, 5, 5, n, 0, 0}, {1}}, {{0, 5, 5, 1, 5, 5}, {0, 5, 5, n, 0, 0}, {1}},
            // two pictures, straight
            {{0, 5, 5, 0, 20, 20}, {0, 8, 2, 0, 17, 23}, {0}}, {{0, 5, 5, 0, 20, 20}, {0, 9, 5, 0, 20, 20}, {1}},
            {{0, 5, 5, 0, 20, 20}, {0, 5, 5, 0, 20, 24}, {1}},
            // two pictures, crossed: those of the same picture are compared
            {{0, 5, 5, 0, 20, 20}, {1, 20, 20, 1, 5, 5}, {0}}, {{0, 5, 5, 0, 20, 20}, {1, 5, 5, 1, 20, 20}, {1}},
            {{0, 5, 5, 0, 20, 20}, {1, 20, 16, 1, 5, 5}, {1}},
            // other sets of two
            {{0, 5, 5, 0, 5, 5}, {0, 5, 5, 1, 5, 5}, {1}}, {{0, 5, 5, 1, 5, 5}, {1, 5, 5, 0, 5, 5}, {1}},
            // twice the same picture: both ways of pairing must be far
            {{0, 5, 5, 1, 20, 20}, {0, 5, 5, 1, 20, 20}, {0}}, {{0, 5, 5, 1, 20, 20}, {0, 20, 20, 1, 5, 5}, {0}},
            {{0, 5, 5, 1, 20, 20}, {0, 20, 20, 1, 9, 5}, {1}}, {{0, 5, 5, 1, 20, 20}, {0, 5, 5, 1, 24, 20}, {1}},
            {{0, 5, 5, 1, 8, 8}, {0, 5, 5, 1, 8, 8}, {0}}, {{0, 5, 5, 1, 5, 5}, {0, 9, 5, 1, 5, 5}, {1}},
            {{1, 5, 5, 0, 20, 20}, {1, 18, 18, 0, 7, 7}, {0}},
        };
        for (int i = 0; i < rows.length; i++) {
            VideoSuite v = two(rows[i][0], rows[i][1]);
            Check.due("P21 two lists, " + i, v.edge(1, 0, 0), rows[i][2][0]);
            Check.due("P21 two lists, the other piece, " + i, v.edge(1, 10, 0), rows[i][2][0]);
        }
    }

    /** DIRECT refers to pictures as others do: beside the same ones, with the same VECTORS, 0. */
    private static void strengthOfDirect() {
        for (int i = 0; i < 8; i++) {
            Streams s = sets(2, 1, 2).sets();
            s.add(raws(s.head(5, 2).data(), 50, 60).unit()).add(raws(s.head(1, 2).at(1, 48).data(), 50, 60).unit());
            Streams.Head h = s.head(1, 1).at(2, 20).ref(0).n(2, 2);
            h.space = i / 4;
            // the first one by list 0, by list 1 or both; list 0 is ORDER 0, 48; list 1 48, 0
            int type = i % 4 == 3 ? 3 : 1 + i % 4;
            Data d = h.data().type(type);
            for (int l = 0; l < 2; l++) {
                if ((type >> l & 1) == 1) {
                    d.te(1, i % 4 == 3 ? 1 : 0);
                }
            }
            for (int l = 0; l < 2; l++) {
                if ((type >> l & 1) == 1) {
                    d.move(0, 0);
                }
            }
            VideoSuite v = ended(s.add(d.pattern(0).skipped(1).unit()), 0);
            Check.due("P24 FAULTS", v.count(4), 0);
            // by time DIRECT is ORDER 0 and 48, both entries 0; by space as the one at the left
            boolean isSame = i / 4 == 1 || type == 3 && i % 4 == 2 || i % 4 == 3;
            Check.due("P21 beside DIRECT, " + i, v.edge(1, 0, 0), isSame ? 0 : 1);
            Check.due("P21 within DIRECT, " + i, v.edge(1, 4, 0) + v.edge(1, 8, 1), 0);
        }
    }

    private static final int[] ALPHA = Codes.numbers(Codes.between("ALPHA, 16 .. 51 (0 before):", "BETA:"));
    private static final int[] BETA = Codes.numbers(Codes.between("(0 before): 4 4", "C0,").split("BETA:")[1]);

    private static int bound(int[] table, int index) {
        int i = Math.max(0, Math.min(51, index));
        return i < 16 ? 0 : table[i - 16];
    }

    private static Data flat(Data d, int even) {
        d.type(3).colours(0).more(0);
        return Codes.levels(d, 0, 16, even);
    }

    /** Two BLOCKS that are flat, with a step between them: filtered, if it is below ALPHA. */
    private static void thresholds() {
        for (int q = 0; q < 52; q += q < 20 ? 1 : 5) {
            for (int a = -6; a <= 6; a += 3) {
                for (int even = 1; even < 60; even = even * 2 + 1) {
                    int[] shown = new int[2];
                    int[] plain = new int[2];
                    for (int off = 0; off < 2; off++) {
                        Streams s = sets(2, 1, 1).sets();
                        Streams.Head h = s.head(5, 2).off(off, a, 6);
                        h.more = q - 26;
                        VideoSuite v = ended(s.add(flat(flat(h.data(), 0), even).unit()), 0);
                        int[] to = off == 0 ? shown : plain;
                        to[0] = v.sample(0, 0, 15, 5);
                        to[1] = v.sample(0, 0, 16, 5);
                    }
                    int step = Math.abs(plain[0] - plain[1]);
                    if (step == 1) {
                        // what is filtered is as it was
                        continue;
                    }
                    boolean isBelow = step > 0 && step < bound(ALPHA, q + 2 * a) && bound(BETA, q + 12) > 0;
                    Check.due("P14 a step of " + step + " at STEP " + q + ", A " + a,
                            shown[0] != plain[0] || shown[1] != plain[1] ? 1 : 0, isBelow ? 1 : 0);
                }
            }
        }
    }

    // ---- edges as section 7 tells them, over whole planes

    private static final int[][] C0 = softs();

    private static int[][] softs() {
        int[][] c = new int[52][4];
        String[] rows = Codes.between("for a 17 .. 51 (0 before):", "\n```").split(",");
        int a = 17;
        for (String r : rows) {
            String[] words = r.trim().replace(".", "").split(" +");
            if (words[0].length() == 3) {
                for (String w : words) {
                    for (int s = 1; s < 4; s++) {
                        c[a][s] = w.charAt(s - 1) - '0';
                    }
                    a++;
                }
            } else {
                for (int s = 1; s < 4; s++) {
                    c[a][s] = Integer.parseInt(words[s - 1]);
                }
                a++;
            }
        }
        return c;
    }

    private static int clip(int x) {
        return Math.max(0, Math.min(255, x));
    }

    private static int clamp(int l, int h, int x) {
        return x < l ? l : x > h ? h : x;
    }

    private static void line(int[] s, int at, int step, int strong, int m, int a, int b, boolean isLuma) {
        int ia = clamp(0, 51, m + 2 * a);
        int alpha = bound(ALPHA, ia);
        int beta = bound(BETA, m + 2 * b);
        int p0 = s[at - step];
        int p1 = s[at - 2 * step];
        int q0 = s[at];
        int q1 = s[at + step];
        if (Math.abs(p0 - q0) >= alpha || Math.abs(p1 - p0) >= beta || Math.abs(q1 - q0) >= beta) {
            return;
        }
        int p2 = isLuma ? s[at - 3 * step] : 0;
        int q2 = isLuma ? s[at + 2 * step] : 0;
        boolean p = isLuma && Math.abs(p2 - p0) < beta;
        boolean q = isLuma && Math.abs(q2 - q0) < beta;
        if (strong < 4) {
            int t = C0[ia][strong];
            int c = isLuma ? t + (p ? 1 : 0) + (q ? 1 : 0) : t + 1;
            int d = clamp(-c, c, (q0 - p0) * 4 + (p1 - q1) + 4 >> 3);
            s[at - step] = clip(p0 + d);
            s[at] = clip(q0 - d);
            s[at - 2 * step] = p ? p1 + clamp(-t, t, p2 + (p0 + q0 + 1 >> 1) - 2 * p1 >> 1) : p1;
            s[at + step] = q ? q1 + clamp(-t, t, q2 + (p0 + q0 + 1 >> 1) - 2 * q1 >> 1) : q1;
            return;
        }
        boolean near = Math.abs(p0 - q0) < (alpha >> 2) + 2;
        s[at - step] = 2 * p1 + p0 + q1 + 2 >> 2;
        s[at] = 2 * q1 + q0 + p1 + 2 >> 2;
        if (p && near) {
            s[at - step] = p2 + 2 * p1 + 2 * p0 + 2 * q0 + q1 + 4 >> 3;
            s[at - 2 * step] = p2 + p1 + p0 + q0 + 2 >> 2;
            s[at - 3 * step] = 2 * s[at - 4 * step] + 3 * p2 + p1 + p0 + q0 + 4 >> 3;
        }
        if (q && near) {
            s[at] = q2 + 2 * q1 + 2 * q0 + 2 * p0 + p1 + 4 >> 3;
            s[at + step] = q2 + q1 + q0 + p0 + 2 >> 2;
            s[at + 2 * step] = 2 * s[at + 3 * step] + 3 * q2 + q1 + q0 + p0 + 4 >> 3;
        }
    }

    private static final int[] ABOVE_29 = Codes.numbers(Codes.between("below 30 i, else of", "the (i - 30)-th"));

    private static int chromaStep(int q, int apart) {
        int i = clamp(0, 51, q + apart);
        return i < 30 ? i : ABOVE_29[i - 30];
    }

    private static void filter(int[][] planes, int wide, int high, int[][][] strength, int[] steps, int apart, int a, int b) {
        for (int mb = 0; mb < wide * high; mb++) {
            for (int p = 0; p < 3; p++) {
                int n = p == 0 ? 16 : 8;
                int row = n * wide;
                for (int way = 0; way < 2; way++) {
                    for (int e = 0; e < n; e += 4) {
                        int other = e > 0 ? mb : way == 0 ? mb - 1 : mb - wide;
                        int m = 0;
                        if (other >= 0) {
                            int sp = p == 0 ? steps[other] : chromaStep(steps[other], apart);
                            int sq = p == 0 ? steps[mb] : chromaStep(steps[mb], apart);
                            m = sp + sq + 1 >> 1;
                        }
                        for (int i = 0; i < n; i++) {
                            int x = way == 0 ? e : i;
                            int y = way == 0 ? i : e;
                            int u = p == 0 ? x : 2 * x;
                            int v = p == 0 ? y : 2 * y;
                            int s = strength[mb][v / 8 * 8 + u / 8 * 4 + v / 4 % 2 * 2 + u / 4 % 2][way];
                            if (s > 0) {
                                int at = (mb / wide * n + y) * row + mb % wide * n + x;
                                line(planes[p], at, way == 0 ? 1 : row, s, m, a, b, p == 0);
                            }
                        }
                    }
                }
            }
        }
    }

    private static Data noisy(Data d, Random chance, boolean isI, int mbs) {
        for (int mb = 0; mb < mbs; mb++) {
            int kind = chance.nextInt(4);
            if (!isI && kind > 0) {
                d.type(0).move(chance.nextInt(9) - 4, chance.nextInt(9) - 4);
                // code 2: luma pattern 1; its pieces without LEVELS but the first
                if (kind == 1) {
                    d.pattern(0);
                } else {
                    d.pattern(1).more(chance.nextInt(5) - 2);
                    Codes.levels(d, 4, 4, chance.nextInt(7) - 3, 1);
                    Codes.levels(d, 4, 4, chance.nextInt(3), 2);
                }
            } else {
                d.type((isI ? 0 : 5) + 3 + 4).colours(0).more(chance.nextInt(7) - 3);
                Codes.levels(d, 0, 16, chance.nextInt(9) - 4, chance.nextInt(5) - 2, chance.nextInt(3) - 1, 1);
                Codes.levels(d, 4, 4, chance.nextInt(7) - 3, chance.nextInt(3) - 1, 1);
                Codes.levels(d, 4, 4, chance.nextInt(7) - 3, 1);
            }
        }
        return d;
    }

    /** ALPHA and BETA of each STEP, just below and not: samples as they are put, by SKIPPED-like BLOCKS of strength 1. */
    private static void eachThreshold() {
        for (int q = 16; q < 52; q++) {
            for (int less = 0; less < 2; less++) {
                int step = bound(ALPHA, q) - less;
                boolean isHigh = q % 2 == 1;
                int[] row = new int[32];
                for (int x = 0; x < 32; x++) {
                    row[x] = x < 17 == isHigh ? step : 0;
                }
                line("ALPHA less " + less + " at " + q, row, q, 0, 6);
                int beta = bound(BETA, q) - less;
                // p1, then q1, above or below
                for (int k = 0; k < 4; k++) {
                    for (int x = 0; x < 32; x++) {
                        row[x] = x < 17 ? 100 : 103;
                    }
                    row[k < 2 ? 14 : 18] += k % 2 == 0 ? beta : -beta;
                    line("BETA less " + less + " at " + q + ", " + k, row, q, 6, 0);
                }
                // p2, then q2: that tells how many samples change
                for (int k = 0; k < 4; k++) {
                    for (int x = 0; x < 32; x++) {
                        row[x] = x < 17 ? 100 : 103;
                    }
                    row[k < 2 ? 13 : 19] += k % 2 == 0 ? beta : -beta;
                    line("BETA less " + less + " at " + q + ", further, " + k, row, q, 6, 0);
                }
            }
        }
    }

    /** A picture whose rows are so, column 16 left out by the right BLOCK's VECTOR; its edge filtered. */
    private static void line(String what, int[] row, int q, int a, int b) {
        int[][] raw = new int[2][384];
        for (int i = 0; i < 512; i++) {
            raw[i / 256][i % 256] = row[i / 256 * 16 + i % 16];
        }
        Streams s = sets(2, 1, 1).sets();
        s.add(s.head(5, 2).off(1, 0, 0).data().type(25).raw(raw[0]).type(25).raw(raw[1]).unit());
        Streams.Head h = s.head(1, 0).at(1, 2).off(0, a, b);
        h.more = q - 26;
        VideoSuite v = ended(s.add(h.data().type(0).move(0, 0).pattern(0).type(0).move(4, 0).pattern(0).unit()), 0);
        Check.due(what + ": STRENGTH", v.edge(1, 0, 0), 1);
        int[] due = new int[32];
        for (int x = 0; x < 32; x++) {
            due[x] = row[x < 16 ? x : Math.min(31, x + 1)];
        }
        line(due, 16, 1, 1, q, a, b, true);
        for (int x = 11; x < 21; x++) {
            Check.due("P14 " + what + ", at " + x, v.sample(1, 0, x, 9), due[x]);
        }
    }

    /** C0 of each STEP and of the STRENGTHS 2 and 3: a BLOCK by lists with LEVELS, and two that are I. */
    private static void eachSoft() {
        for (int i = 0; i < 35 * 3 * 4; i++) {
            int q = 17 + i % 35;
            int kind = i / 35 % 3;
            boolean isI = kind > 0;
            int[][][] planes = new int[2][][];
            int[][][] strength = new int[1][16][2];
            int[] steps = {q};
            for (int off = 0; off < 2; off++) {
                Streams s = sets(1, 1, 1).sets();
                Random chance = new Random(i);
                if (!isI) {
                    int[] raw = new int[384];
                    for (int k = 0; k < 384; k++) {
                        raw[k] = k < 256 ? 90 + chance.nextInt(q) : 128;
                    }
                    s.add(s.head(5, 2).off(1, 0, 0).data().type(25).raw(raw).unit());
                }
                Streams.Head h = (isI ? s.head(5, 2) : s.head(1, 0).at(1, 2)).off(off, 0, 6);
                h.more = q - 26;
                s.add((kind == 2 ? stepped(h.data(), chance) : levelled(h.data(), isI, chance)).unit());
                VideoSuite v = ended(s, 0);
                Check.due("P24 FAULTS", v.count(4), 0);
                planes[off] = Planes.of(() -> ended(s, 0), isI ? 0 : 1, 16, 16);
                for (int k = 0; off == 0 && k < 32; k++) {
                    strength[0][k / 2][k % 2] = v.edge(0, k / 2, k % 2);
                    boolean isInside = k % 2 == 0 ? k / 2 % 2 + k / 8 % 2 > 0 : k / 4 % 2 + k / 16 > 0;
                    Check.due("P21 STRENGTH " + k, strength[0][k / 2][k % 2], !isInside ? 0 : isI ? 3 : 2);
                }
            }
            filter(planes[1], 1, 1, strength, steps, 0, 0, 6);
            for (int k = 0; k < 256; k++) {
                Check.due("P14 filtered at STEP " + q + ", sample " + k, planes[0][0][k], planes[1][0][k]);
            }
        }
    }

    /** SIXTEEN, whose pieces are flat. */
    private static Data stepped(Data d, Random chance) {
        int[] level = new int[7];
        for (int i = 0; i < 7; i++) {
            level[i] = i == 6 ? 1 : chance.nextInt(11) - 5;
        }
        return Codes.levels(d.type(3).colours(0).more(0), 0, 16, level);
    }

    /** A BLOCK with three LEVELS in each luma piece. */
    private static Data levelled(Data d, boolean isI, Random chance) {
        d.type(0);
        for (int b = 0; b < 16 && isI; b++) {
            d.given();
        }
        if (isI) {
            d.colours(0).pattern(2).more(0);
        } else {
            d.move(0, 0).pattern(11).more(0);
        }
        for (int b = 0; b < 16; b++) {
            int[] level = new int[3];
            for (int i = 0; i < 3; i++) {
                level[i] = (1 + (i == 0 ? chance.nextInt(3) : 0)) * (chance.nextInt(2) * 2 - 1);
            }
            Codes.levels(d, b == 0 ? 0 : 1, 16, level);
        }
        return d;
    }

    /** Whole pictures: what off 1 shows, filtered here, is what off 0 shows. */
    private static void filtered() {
        for (int seed = 0; seed < 56; seed++) {
            // the last ones with thresholds as high as can be
            int a = seed < 40 ? seed % 13 - 6 : 6 - seed % 2;
            int b = seed < 40 ? seed * 5 % 13 - 6 : 6;
            int apart = seed * 7 % 25 - 12;
            int[][][] planes = new int[2][][];
            int[][][] strength = new int[6][16][2];
            int[] steps = new int[6];
            for (int off = 0; off < 2; off++) {
                Random chance = new Random(seed);
                Streams s = sets(3, 2, 1);
                s.apartStep = apart;
                s.sets();
                Streams.Head h = s.head(5, 2).off(seed % 2 == 0 ? off : 1, a, b);
                h.more = seed < 40 ? seed % 20 - 4 : 21 + seed % 3;
                s.add(noisy(h.data(), chance, true, 6).unit());
                if (seed % 2 == 1) {
                    h = s.head(1, 0).at(1, 2).off(off, a, b);
                    h.more = seed < 40 ? seed % 17 : 21 + seed % 3;
                    s.add(noisy(h.data(), chance, false, 6).unit());
                }
                VideoSuite v = ended(s, 0);
                Check.due("P24 FAULTS", v.count(4), 0);
                planes[off] = Planes.of(() -> ended(s, 0), seed % 2, 48, 32);
                for (int k = 0; off == 0 && k < 6 * 32; k++) {
                    strength[k / 32][k % 16][k / 16 % 2] = v.edge(k / 32, k % 16, k / 16 % 2);
                }
                for (int mb = 0; mb < 6; mb++) {
                    steps[mb] = v.block(mb, 2);
                }
            }
            filter(planes[1], 3, 2, strength, steps, apart, a, b);
            for (int p = 0; p < 3; p++) {
                for (int i = 0; i < planes[1][p].length; i++) {
                    if (planes[0][p][i] != planes[1][p][i]) {
                        Check.due("P14 filtered, seed " + seed + " plane " + p + " sample " + i, planes[0][p][i],
                                planes[1][p][i]);
                        break;
                    }
                }
            }
        }
    }
}
