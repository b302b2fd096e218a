import java.util.Arrays;

/** Section 6: ORDER, GAPS, lists and moves, marks, and when pictures are put out. */
public final class StoreTest {
    private static final int WRONG = 4;

    public static void main(String[] args) {
        turnsOfLow();
        lowOfReferences();
        orderBehindGaps();
        lowBehindOpFive();
        ownLow();
        kindTwo();
        kindOne();
        gapLengths();
        gapRefused();
        madeUpSamples();
        madeUpBlocks();
        lastBehindOthers();
        slidingOfGaps();
        roomForGaps();
        listsOfEqualOrders();
        listsOfMadeUp();
        twoOfOneFrame();
        twoOfOneNumber();
        movesOfLists();
        longNumbers();
        slidingByReferences();
        opsOfShort();
        opsOfLong();
        opsBehindSix();
        marksByTheFirstSlice();
        noReferenceNoMarks();
        atOnce();
        equalOrders();
        fullStore();
        ownAndDrop();
        opFiveOut();
        numbersGiven();
        madeUpAgain();
        latestReferenceStays();
        endedStays();
        asAtFirst();
        setsGone();
        Check.end();
    }

    private static Streams sets(int refs) {
        Streams s = new Streams();
        s.refs = refs;
        s.lowBits = 8;
        return s;
    }

    private static VideoSuite decoded(Streams s) {
        VideoSuite v = s.object();
        v.decode(400);
        return v;
    }

    private static VideoSuite flushed(Streams s) {
        VideoSuite v = decoded(s);
        v.flush();
        return v;
    }

    private static VideoSuite whole(String what, Streams s) {
        VideoSuite v = flushed(s);
        Check.due(what + ": FAULTS", v.count(4), 0);
        return v;
    }

    private static void same(String what, Object got, Object due) {
        Check.due(what + ": " + got + ", due " + due, got.equals(due) ? 1 : 0, 1);
    }

    /** FRAME of the SHORT ones, number of the LONG ones, as they stand in the STORE; of others nothing. */
    private static String store(VideoSuite v) {
        StringBuilder t = new StringBuilder();
        for (int i = 0; i < v.count(5); i++) {
            int use = v.stored(i, 2);
            t.append(use == 1 ? "S" + v.stored(i, 0) : use == 2 ? "L" + v.stored(i, 3) : "-").append(' ');
        }
        return t.toString().trim();
    }

    private static String list(VideoSuite v, int which) {
        StringBuilder t = new StringBuilder();
        for (int i = 0; i < 8; i++) {
            int k = i;
            long e = Check.told(() -> v.entry(which, k));
            t.append(e == -1000002 ? "." : String.valueOf(e)).append(' ');
        }
        return t.toString().trim();
    }

    private static String orders(VideoSuite v) {
        int[] o = new int[v.count(3)];
        for (int k = 0; k < o.length; k++) {
            o[k] = v.picture(k, 2);
        }
        return Arrays.toString(o);
    }

    /** An OWN picture and n - 1 that are REFERENCES, of ORDERS 0, 2, 4, .. */
    private static Streams many(int refs, int n) {
        Streams s = sets(refs).sets();
        s.add(s.head(5, 2).raw(10, 0, 0));
        for (int i = 1; i < n; i++) {
            s.add(s.head(1, 2).at(i, 2 * i).raw(10 + i, i, i));
        }
        return s;
    }

    private static int orderBehind(int bits, int first, int then) {
        Streams s = sets(1);
        s.lowBits = bits;
        s.sets().add(s.head(5, 2).raw(1, 1, 1));
        int m = 1 << bits;
        // LOW goes up to first in steps that do not turn
        int low = 0;
        int frame = 0;
        while (low != first) {
            low = Math.min(first, low + m / 2);
            frame++;
            s.add(s.head(1, 2).at(frame, low).raw(1, 1, 1));
        }
        s.add(s.head(1, 2).at(frame + 1, then).raw(1, 1, 1));
        return decoded(s).slice(17);
    }

    /** Below by half or more: one turn more; above by more than half: one less. */
    private static void turnsOfLow() {
        for (int bits = 4; bits <= 16; bits += 6) {
            int m = 1 << bits;
            int h = m / 2;
            Check.due("P17 below by half", orderBehind(bits, h, 0), m);
            Check.due("P17 below by half", orderBehind(bits, m - 1, h - 1), m + h - 1);
            Check.due("P17 below by less than half", orderBehind(bits, h, 1), 1);
            Check.due("P17 below by less than half", orderBehind(bits, m - 1, h), h);
            Check.due("P17 below by most", orderBehind(bits, m - 1, 0), m);
            Check.due("P17 above by half", orderBehind(bits, 0, h), h);
            Check.due("P17 above by half", orderBehind(bits, h - 1, m - 1), m - 1);
            Check.due("P17 above by more than half", orderBehind(bits, 0, h + 1), h + 1 - m);
            Check.due("P17 above by more than half", orderBehind(bits, 1, m - 1), -1);
            Check.due("P17 the same", orderBehind(bits, h, h), h);
        }
    }

    /** Of the REFERENCE before, not of others. */
    private static void lowOfReferences() {
        Streams s = sets(1);
        s.lowBits = 4;
        s.sets().add(s.head(5, 2).raw(1, 1, 1)).add(s.head(1, 2).at(1, 7).ref(0).raw(1, 1, 1));
        Check.due("P17 behind one of LOW 7 that is none", decoded(s.add(s.head(1, 2).at(1, 15).raw(1, 1, 1))).slice(17), -1);
        Streams t = sets(1);
        t.lowBits = 4;
        t.sets().add(t.head(5, 2).raw(1, 1, 1)).add(t.head(1, 2).at(1, 7).raw(1, 1, 1));
        Check.due("P17 behind one of LOW 7 that is one", decoded(t.add(t.head(1, 2).at(2, 15).raw(1, 1, 1))).slice(17), 15);
        // d0 is not counted for the next one
        Streams u = sets(1);
        u.lowBits = 4;
        u.pair = 1;
        u.sets().add(u.head(5, 2).raw(1, 1, 1));
        int[] d0 = {-5, 5, 0, -32768, 32767};
        for (int d : d0) {
            Streams.Head h = u.head(1, 2).at(1, 6);
            h.d0 = d;
            Streams w = sets(1);
            w.bytes.writeBytes(u.bytes.toByteArray());
            w.add(h.raw(1, 1, 1));
            Check.due("P17 d0 " + d, decoded(w).slice(17), Math.min(6, 6 + d));
            h = u.head(1, 2).at(2, 7);
            Check.due("P17 behind d0 " + d, decoded(w.add(h.raw(1, 1, 1))).slice(17), 7);
        }
    }

    /** One made up has neither high nor low, and its FRAME turns as that of any other. */
    private static void orderBehindGaps() {
        Streams s = gaps(2);
        s.lowBits = 4;
        s.sets().add(s.head(5, 2).raw(1, 1, 1)).add(s.head(1, 2).at(1, 7).raw(1, 1, 1));
        s.add(s.head(1, 2).at(2, 14).raw(1, 1, 1)).add(s.head(1, 2).at(5, 2).raw(1, 1, 1));
        Check.due("P17 behind GAPS", decoded(s).slice(17), 18);
        for (int frame = 1; frame < 15; frame++) {
            Streams t = gaps(2);
            t.kind = 2;
            t.sets().add(t.head(5, 2).raw(1, 1, 1)).add(t.head(1, 2).at(14, 0).raw(1, 1, 1));
            t.add(t.head(1, 2).at(frame, 0).raw(1, 1, 1));
            Check.due("P17 FRAME turns in GAPS", decoded(t).slice(17), 2 * (frame < 14 ? 16 + frame : frame));
        }
    }

    private static void lowBehindOpFive() {
        Streams s = sets(1);
        s.lowBits = 4;
        s.sets().add(s.head(5, 2).raw(1, 1, 1)).add(s.head(1, 2).at(1, 7).raw(1, 1, 1));
        s.add(s.head(1, 2).at(2, 14).ops(5).raw(1, 1, 1));
        VideoSuite v = decoded(s);
        Check.due("P17 as it began", v.slice(17), 14);
        v.flush();
        Check.due("P22 its ORDER", v.stored(0, 1), 0);
        Check.due("P22 its FRAME", v.stored(0, 0), 0);
        Check.due("P13 its ORDER", v.picture(2, 2), 0);
        Check.due("P17 low is 0 behind it", decoded(s.add(s.head(1, 2).at(1, 9).raw(1, 1, 1))).slice(17), -7);
    }

    private static void ownLow() {
        Streams s = sets(1);
        s.lowBits = 4;
        s.sets().add(s.head(5, 2).raw(1, 1, 1)).add(s.head(1, 2).at(1, 8).raw(1, 1, 1));
        s.add(s.head(1, 2).at(2, 0).raw(1, 1, 1));
        Check.due("P17 one turn", decoded(s).slice(17), 16);
        Streams.Head h = s.head(5, 2).at(0, 8);
        Check.due("P17 an OWN one begins with 0", decoded(s.add(h.raw(1, 1, 1))).slice(17), 8);
        Check.due("P17 and goes on so", decoded(s.add(s.head(1, 2).at(1, 0).raw(1, 1, 1))).slice(17), 16);
        // LOW of the REFERENCE before is 8: that counts no more
        int[][] rows = {{0, 0}, {1, 1}, {7, 7}, {8, 8}, {9, -7}, {15, -1}};
        for (int[] r : rows) {
            Streams t = sets(1);
            t.lowBits = 4;
            t.sets().add(t.head(5, 2).raw(1, 1, 1)).add(t.head(1, 2).at(1, 8).raw(1, 1, 1));
            Streams.Head own = t.head(5, 2).at(0, r[0]);
            own.ownId = 1;
            Check.due("P17 an OWN one of LOW " + r[0], decoded(t.add(own.raw(1, 1, 1))).slice(17), r[1]);
        }
    }

    private static void kindTwo() {
        Streams s = sets(1);
        s.kind = 2;
        s.sets();
        int[][] rows = {{5, 0, 1, 0}, {1, 1, 0, 1}, {1, 1, 1, 2}, {1, 2, 1, 4}, {1, 3, 0, 5}, {5, 0, 0, 0}, {1, 1, 1, 2}};
        int id = 0;
        for (int[] r : rows) {
            Streams.Head h = s.head(r[0], 2).at(r[1], 0).ref(r[2]);
            h.ownId = r[0] == 5 ? id++ : 0;
            Check.due("P17 kind 2, FRAME " + r[1], decoded(s.add(h.raw(1, 1, 1))).slice(17), r[3]);
        }
        // FRAME turns, also behind one that is no REFERENCE; behind op 5 it begins anew
        Streams t = sets(1);
        t.kind = 2;
        t.sets().add(t.head(5, 2).raw(1, 1, 1));
        for (int i = 1; i < 16; i++) {
            t.add(t.head(1, 2).at(i, 0).raw(1, 1, 1));
        }
        Check.due("P17 kind 2, before FRAME turns", decoded(t).slice(17), 30);
        Check.due("P17 kind 2, FRAME turns", decoded(t.add(t.head(1, 2).at(0, 0).ref(0).raw(1, 1, 1))).slice(17), 31);
        Check.due("P17 kind 2, it has turned", decoded(t.add(t.head(1, 2).at(0, 0).raw(1, 1, 1))).slice(17), 32);
        Check.due("P17 kind 2, then", decoded(t.add(t.head(1, 2).at(1, 0).raw(1, 1, 1))).slice(17), 34);
        Check.due("P17 kind 2, the same FRAME", decoded(t.add(t.head(1, 2).at(1, 0).ref(0).raw(1, 1, 1))).slice(17), 33);
        Check.due("P17 kind 2, a lesser FRAME", decoded(t.add(t.head(1, 2).at(2, 0).ops(5).raw(1, 1, 1))).slice(17), 36);
        Check.due("P17 kind 2, behind op 5", decoded(t.add(t.head(1, 2).at(1, 0).raw(1, 1, 1))).slice(17), 2);
    }

    private static void kindOne() {
        Streams s = sets(1);
        s.kind = 1;
        s.apart = -3;
        s.below = -2;
        s.turns = new int[] {1, 5, 10};
        s.sets();
        // (a - 1) / 3 times 16, the first (a - 1) % 3 + 1; below 0: the lesser is 2 less
        int[] sums = {0, 1, 6, 16, 17, 22, 32, 33};
        s.add(s.head(5, 2).raw(1, 1, 1));
        Check.due("P17 kind 1, OWN", decoded(s).slice(17), -2);
        for (int i = 1; i < 8; i++) {
            Streams w = sets(1);
            w.bytes.writeBytes(s.bytes.toByteArray());
            Check.due("P17 kind 1, no REFERENCE, FRAME " + i, decoded(w.add(s.head(1, 2).at(i, 0).ref(0).raw(1, 1, 1)))
                    .slice(17), sums[i - 1] - 3 - 2);
            s.add(s.head(1, 2).at(i, 0).raw(1, 1, 1));
            Check.due("P17 kind 1, FRAME " + i, decoded(s).slice(17), sums[i] - 2);
        }
        // an OWN one that is no REFERENCE: a stays 0
        Streams t = sets(1);
        t.kind = 1;
        t.apart = 7;
        t.turns = new int[] {100};
        t.sets();
        Check.due("P17 kind 1, OWN, no REFERENCE", decoded(t.add(t.head(5, 2).ref(0).raw(1, 1, 1))).slice(17), 7);
        Check.due("P17 kind 1, a 1 less 1", decoded(t.add(t.head(1, 2).at(1, 0).ref(0).raw(1, 1, 1))).slice(17), 7);
        // n 0: FRAME does not count
        Streams u = sets(1);
        u.kind = 1;
        u.apart = 7;
        u.below = 4;
        u.sets().add(u.head(5, 2).raw(1, 1, 1));
        Check.due("P17 kind 1, n 0", decoded(u.add(u.head(1, 2).at(1, 0).raw(1, 1, 1))).slice(17), 0);
        Check.due("P17 kind 1, n 0", decoded(u.add(u.head(1, 2).at(2, 0).ref(0).raw(1, 1, 1))).slice(17), 7);
    }

    private static Streams gaps(int refs) {
        Streams s = sets(refs);
        s.gaps = 1;
        return s;
    }

    /** LAST and one more are no GAP; of more than 6 the last 6. */
    private static void gapLengths() {
        for (int ahead = 0; ahead < 16; ahead++) {
            for (int last = 0; last < 16; last += 15) {
                Streams s = gaps(4).sets();
                s.add(s.head(5, 2).raw(7, 7, 7));
                for (int i = 1; i <= last; i++) {
                    s.add(s.head(1, 2).at(i, 2 * i).raw(7, 7, 7));
                }
                VideoSuite v = decoded(s.add(s.head(1, 2).at((last + ahead) % 16, 99).ref(0).raw(8, 8, 8)));
                int n = 0;
                for (int i = 0; i < v.count(5); i++) {
                    if (v.stored(i, 5) == 1) {
                        int k = ahead - v.count(5) + i;
                        Check.due("P22 FRAME of one made up, " + ahead, v.stored(i, 0), (last + k) % 16);
                        n++;
                    }
                }
                // four references may be at most: of the last 6 the last 4
                Check.due("P22 made up between, " + ahead, n, Math.min(4, Math.max(0, ahead - 1)));
                Check.due("P24 no FAULT", v.count(4), 0);
            }
        }
        // all six are told by those that go out before them: the STORE has room for 6
        Streams s = gaps(0).sets();
        s.add(s.head(5, 2).raw(7, 7, 7)).add(s.head(1, 2).at(8, 50).raw(8, 8, 8));
        same("P22 REFS 0 counts as 1", store(decoded(s)), "- S7");
    }

    private static void gapRefused() {
        Streams s = sets(2).sets();
        s.add(s.head(5, 2).raw(7, 7, 7));
        int at = 5;
        for (int ahead = 0; ahead < 16; ahead++) {
            Streams t = sets(2);
            t.bytes.writeBytes(s.bytes.toByteArray());
            VideoSuite v = decoded(t.add(s.head(1, 2).at(ahead, 4).ref(0).raw(1, 1, 1)));
            Check.due("P24 GAPS of " + ahead, v.count(4), ahead > 1 ? 1 : 0);
            Check.due("P17 SLICES begun", v.count(7), ahead > 1 ? 1 : 2);
            Check.due("P41 nothing begins", v.count(6), ahead > 1 ? 0 : 1);
            Check.due("P22 what was under way has ended", v.count(5), 1);
            if (ahead > 1) {
                Check.due("P24 its place", v.fault(0, 1), at);
                Check.due("P24 its kind", v.fault(0, 2), WRONG);
            }
        }
        // another SLICE of a PICTURE that has begun is not looked at so
        Streams two = sets(2).size(2, 1).sets();
        two.add(two.head(5, 2).raw(1, 1, 1, 2, 2, 2)).add(two.head(1, 2).at(1, 4).ref(0).raw(1, 1, 1));
        VideoSuite v = decoded(two.add(two.head(1, 2).at(1, 4).ref(0).from(1).raw(1, 1, 1)));
        Check.due("P24 the same PICTURE", v.count(4), 0);
        // in ARITH too FRAME's place is that in the HEADER
        Streams a = sets(2);
        a.coding = 1;
        a.sets().add(a.head(5, 2).data().type(25).raw(1).unit());
        v = decoded(a.add(a.head(1, 2).at(3, 4).data().type(25).raw(1).unit()));
        Check.due("P24 by ARITH", v.fault(0, 1), at);
    }

    private static int madeUp(VideoSuite v) {
        for (int i = 0; i < v.count(5); i++) {
            if (v.stored(i, 5) == 1) {
                return i;
            }
        }
        return -1;
    }

    /** The samples of the latest REFERENCE that isn't made up, stored still or not. */
    private static void madeUpSamples() {
        Streams s = gaps(1).sets();
        s.add(s.head(5, 2).raw(70, 80, 90)).add(s.head(1, 2).at(1, 20).ref(0).raw(1, 2, 3));
        // REFS 1: the OWN one is gone, when the second one is made up
        s.add(s.head(1, 0).at(3, 4).skipped(1));
        VideoSuite v = whole("stored no more", s);
        Check.due("P14 luma", v.sample(1, 0, 5, 5), 70);
        Check.due("P14 chroma", v.sample(1, 2, 5, 5), 90);
        Check.due("P13 ORDER", v.picture(1, 2), 4);
        Check.due("P13 what refers to it is not trusted", v.picture(1, 5), 0);
        v = decoded(gapsBehind(s));
        int[] due = {2, 0, 1, -1, 0, 1, 0};
        int k = madeUp(v);
        for (int i = 0; i < 7; i++) {
            Check.due("P22 stored(" + k + ", " + i + ")", v.stored(k, i), due[i]);
        }
        Streams none = gaps(1).sets();
        none.add(none.head(5, 2).ref(0).raw(70, 80, 90)).add(none.head(1, 0).at(3, 4).skipped(1));
        v = whole("none", none);
        Check.due("P14 none: 128", v.sample(1, 0, 5, 5), 128);
        Check.due("P14 none: 128", v.sample(1, 1, 5, 5), 128);
        // an OWN one of another size that is no REFERENCE
        Streams other = gaps(2).sets();
        other.add(other.head(5, 2).raw(70, 80, 90)).size(2, 1);
        Streams.Head h = other.sets().head(5, 2).ref(0);
        h.ownId = 1;
        other.add(h.raw(1, 1, 1, 2, 2, 2)).add(other.head(1, 0).at(2, 4).skipped(2));
        v = whole("of another size", other);
        Check.due("P14 of another size: 128", v.sample(2, 0, 5, 5), 128);
        // of two GAPS: that made up is not the one
        Streams two = gaps(2).sets();
        two.add(two.head(5, 2).raw(70, 80, 90)).add(two.head(1, 2).at(2, 4).ref(0).raw(5, 5, 5));
        two.add(two.head(1, 0).at(5, 6).skipped(1));
        v = whole("of two GAPS", two);
        Check.due("P14 that made up is not the one", v.sample(2, 0, 5, 5), 70);
    }

    private static Streams gapsBehind(Streams s) {
        Streams t = gaps(1).sets();
        return t.add(t.head(5, 2).raw(70, 80, 90)).add(t.head(1, 2).at(3, 20).ref(0).raw(1, 2, 3));
    }

    /** BLOCKS of those made up are I: DIRECT by time has references 0, VECTORS 0 0; by space nothing is STILL. */
    private static void madeUpBlocks() {
        for (int space = 0; space < 2; space++) {
            Streams s = gaps(2);
            s.size(2, 1).sets();
            s.add(s.head(5, 2).at(0, 206).data().type(25).raw(1).type(25).raw(2).unit());
            // ORDERS: OWN -50, made up 0, this one -20
            Streams.Head h = s.head(1, 1).at(2, 236).ref(0).n(1, 1);
            h.space = space;
            s.add(h.data().type(3).move(12, 8, -4, 4).pattern(0).skipped(1).unit());
            VideoSuite v = decoded(s);
            Check.due("FAULTS", v.count(4), 0);
            Check.due("P17 ORDER", v.slice(17), -20);
            Check.due("P23 list 1 begins with the one made up", v.entry(1, 0), 0);
            Check.due("P19 x by space " + space, v.vector(1, 0, 0, 0), space == 1 ? 12 : 0);
            Check.due("P19 y of list 1", v.vector(1, 0, 1, 1), space == 1 ? 4 : 0);
            Check.due("P19 reference", v.vector(1, 0, 1, 2), 0);
        }
    }

    /** LAST is 0 behind an OWN one, REF 0 or not, and behind op 5; else the latest REFERENCE's FRAME. */
    private static void lastBehindOthers() {
        for (int ref = 0; ref < 2; ref++) {
            Streams s = many(1, 6);
            Streams.Head h = s.head(5, 2).ref(ref);
            s.add(h.raw(1, 1, 1)).add(s.head(1, 2).at(1, 4).raw(1, 1, 1));
            Check.due("P24 LAST is 0 behind OWN of REF " + ref, decoded(s).count(4), 0);
            s.add(s.head(1, 2).at(7, 4).raw(1, 1, 1));
            Check.due("P24 not what it was", decoded(s).count(4), 1);
        }
        Streams s = many(1, 6);
        s.add(s.head(1, 2).at(6, 12).ops(5).raw(1, 1, 1)).add(s.head(1, 2).at(1, 14).raw(1, 1, 1));
        Check.due("P24 LAST is 0 behind op 5", decoded(s).count(4), 0);
        s = many(1, 6);
        s.add(s.head(1, 2).at(6, 12).ref(0).raw(1, 1, 1)).add(s.head(1, 2).at(7, 14).raw(1, 1, 1));
        Check.due("P24 one that is no REFERENCE is not LAST", decoded(s).count(4), 1);
        s = many(1, 6);
        s.add(s.head(1, 2).at(6, 12).ref(0).raw(1, 1, 1)).add(s.head(1, 2).at(6, 14).raw(1, 1, 1));
        s.add(s.head(1, 2).at(5, 16).raw(1, 1, 1));
        VideoSuite v = decoded(s);
        Check.due("P24 15 ahead", v.count(4), 1);
        // LAST is that of the one made up
        Streams g = gaps(2).sets();
        g.add(g.head(5, 2).raw(1, 1, 1)).add(g.head(1, 2).at(3, 4).ref(0).raw(1, 1, 1));
        g.add(g.head(1, 2).at(2, 6).ref(0).raw(1, 1, 1));
        v = decoded(g);
        Check.due("P24 as of the one made up", v.count(4), 0);
        same("P22 no more are made up", store(v), "- S1 S2 -");
    }

    /** SLIDING by the FRAME of the one made up. */
    private static void slidingOfGaps() {
        Streams s = gaps(3).sets();
        s.add(s.head(5, 2).raw(1, 1, 1));
        for (int i = 1; i < 15; i++) {
            s.add(s.head(1, 2).at(i, 2 * i).raw(1, 1, 1));
        }
        s.add(s.head(1, 2).at(1, 40).ref(0).raw(1, 1, 1));
        VideoSuite v = flushed(s);
        // 12 13 14 stood; 15 and 0 are made up: 12, then 13 go
        same("P22 the least FRAMENUM goes", store(v), "S14 S15 S0");
        // LONG ones count, but stay
        Streams t = gaps(2).sets();
        Streams.Head own = t.head(5, 2);
        own.isLong = 1;
        t.add(own.raw(1, 1, 1)).add(t.head(1, 2).at(4, 40).ref(0).raw(1, 1, 1));
        same("P22 LONG ones stay", store(flushed(t)), "L0 S3");
        // none is SHORT: nothing goes, and there are more than REFS
        Streams u = gaps(1).sets();
        own = u.head(5, 2);
        own.isLong = 1;
        u.add(own.raw(1, 1, 1)).add(u.head(1, 2).at(2, 40).ref(0).raw(1, 1, 1));
        same("P22 none is SHORT", store(flushed(u)), "L0 S1");
    }

    /** As long as 6 are there one WAITING goes out before one is made up. */
    private static void roomForGaps() {
        Streams s = gaps(2).sets();
        s.add(s.head(5, 2).at(0, 1).raw(1, 1, 1));
        int[] lows = {90, 80, 70, 60, 50};
        for (int i = 0; i < 5; i++) {
            s.add(s.head(1, 2).at(i + 1, lows[i]).raw(1, 1, 1));
        }
        VideoSuite v = decoded(s.add(s.head(1, 2).at(6, 40).ref(0).raw(1, 1, 1)));
        Check.due("P41 full", v.count(5), 6);
        Check.due("P41 none is out", v.count(3), 0);
        // the OWN one is no reference any more: it goes out, one place is free for each
        Streams t = gaps(2);
        t.bytes.writeBytes(s.bytes.toByteArray());
        v = decoded(t.add(s.head(1, 2).at(8, 30).ref(0).raw(1, 1, 1)));
        same("P12 out for those made up", orders(v), "[1, 40, 50]");
        same("P22 those made up", store(v), "- - - - S6 S7");
    }

    private static void listsOfEqualOrders() {
        Streams s = sets(4).sets();
        s.add(s.head(5, 2).at(0, 10).raw(1, 1, 1)).add(s.head(1, 2).at(1, 10).raw(2, 2, 2));
        s.add(s.head(1, 2).at(2, 30).raw(3, 3, 3)).add(s.head(1, 2).at(3, 30).raw(4, 4, 4));
        // which entry is which their samples tell
        for (int l = 0; l < 2; l++) {
            int[] due = l == 0 ? new int[] {2, 1, 4, 3} : new int[] {4, 3, 2, 1};
            for (int r = 0; r < 4; r++) {
                Streams t = sets(4);
                t.bytes.writeBytes(s.bytes.toByteArray());
                Streams.Head h = s.head(1, 1).at(4, 20).ref(0).n(4, 4).off(1, 0, 0);
                VideoSuite v = flushed(t.add(h.data().type(1 + l).te(3, r).move(0, 0).pattern(0).unit()));
                int k = v.count(3) - 1;
                for (int i = 0; i < v.count(3); i++) {
                    k = v.picture(i, 3) == 1 ? i : k;
                }
                Check.due("P23 equal ORDERS: by falling FRAMENUM, list " + l + ", " + r, v.sample(k, 0, 0, 0), due[r]);
            }
        }
    }

    /** One made up stands by its ORDER 0. */
    private static void listsOfMadeUp() {
        Streams s = gaps(4).sets();
        s.add(s.head(5, 2).at(0, 246).raw(1, 1, 1)).add(s.head(1, 2).at(2, 20).raw(2, 2, 2));
        VideoSuite v = decoded(s.add(s.head(1, 1).at(3, 10).ref(0).n(8, 8).data().type(48).raw(5).unit()));
        same("P23 list 0", list(v, 0), "0 -10 20 . . . . .");
        same("P23 list 1", list(v, 1), "20 0 -10 . . . . .");
        v = decoded(s.add(s.head(1, 0).at(3, 30).ref(0).n(8).data().type(30).raw(5).unit()));
        same("P23 of P", list(v, 0), "20 0 -10 . . . . .");
    }

    /** Of two SHORT ones of one FRAME: moves take the last, ops 1 and 3, SLIDING and REFS the first stored. */
    private static void twoOfOneFrame() {
        Streams s = sets(3).sets();
        s.add(s.head(5, 2).at(0, 2).raw(1, 1, 1)).add(s.head(1, 2).at(1, 4).raw(2, 2, 2)).add(s.head(1, 2).at(1, 6).raw(3, 3, 3));
        VideoSuite v = decoded(copy(s).add(s.head(1, 0).at(2, 9).n(3).moves(0, 0, 0).data().type(30).raw(9).unit()));
        same("P23 as they were stored, the last one moved", list(v, 0), "6 4 2 . . . . .");
        v = decoded(copy(s).add(s.head(1, 0).at(2, 9).n(3).data().type(30).raw(9).unit()));
        same("P23 as they were stored", list(v, 0), "4 6 2 . . . . .");
        v = flushed(copy(s).add(s.head(1, 2).at(2, 8).ops(1, 0).raw(4, 4, 4)));
        same("P22 op 1 takes the first", ordersOf(v), "[2, 6, 8]");
        v = flushed(copy(s).add(s.head(1, 2).at(2, 8).ops(4, 1, 3, 0, 0).raw(4, 4, 4)));
        same("P22 op 3 takes the first", usesOf(v), "[4 L, 6 S, 8 S]");
        Streams t = sets(2).sets();
        t.add(t.head(5, 2).at(0, 2).raw(1, 1, 1)).add(t.head(1, 2).at(0, 4).raw(2, 2, 2)).add(t.head(1, 2).at(1, 6).raw(3, 3, 3));
        same("P22 SLIDING takes the first", ordersOf(flushed(t)), "[4, 6]");
        t = sets(2).sets();
        t.add(t.head(5, 2).at(0, 2).raw(1, 1, 1)).add(t.head(1, 2).at(0, 4).raw(2, 2, 2));
        t.add(t.head(1, 2).at(1, 6).ops(2, 3).raw(3, 3, 3));
        same("P22 above REFS the first goes", ordersOf(flushed(t)), "[4, 6]");
    }

    private static Streams copy(Streams s) {
        Streams t = sets(1);
        t.bytes.writeBytes(s.bytes.toByteArray());
        return t;
    }

    private static String ordersOf(VideoSuite v) {
        int[] o = new int[v.count(5)];
        for (int i = 0; i < o.length; i++) {
            o[i] = v.stored(i, 1);
        }
        return Arrays.toString(o);
    }

    private static String usesOf(VideoSuite v) {
        String[] o = new String[v.count(5)];
        for (int i = 0; i < o.length; i++) {
            int use = v.stored(i, 2);
            o[i] = v.stored(i, 1) + (use == 2 ? " L" : use == 1 ? " S" : " -");
        }
        return Arrays.toString(o);
    }

    /** Two LONG ones of one number, by op 6 and then op 3: ORDERS 2 (number 0) and 6 (number 0). */
    private static Streams twoLong(int refs) {
        Streams s = sets(refs).sets();
        s.add(s.head(5, 2).at(0, 2).raw(1, 1, 1)).add(s.head(1, 2).at(1, 4).raw(2, 2, 2));
        return s.add(s.head(1, 2).at(2, 6).ops(4, 2, 6, 0, 3, 1, 0).raw(3, 3, 3));
    }

    private static void twoOfOneNumber() {
        Streams s = twoLong(4);
        same("P22 two of one number", usesOf(flushed(s)), "[2 L, 4 S, 6 L]");
        VideoSuite v = decoded(copy(s).add(s.head(1, 0).at(3, 9).n(4).data().type(30).raw(9).unit()));
        same("P23 as they were stored", list(v, 0), "4 2 6 . . . . .");
        v = decoded(copy(s).add(s.head(1, 0).at(3, 9).n(4).moves(0, 2, 0).data().type(30).raw(9).unit()));
        same("P23 moves take the last", list(v, 0), "6 4 2 . . . . .");
        same("P22 op 2 takes the first", usesOf(flushed(copy(s).add(s.head(1, 2).at(3, 8).ops(2, 0).raw(4, 4, 4)))),
                "[4 S, 6 L, 8 S]");
        same("P22 op 6 takes the first", usesOf(flushed(copy(s).add(s.head(1, 2).at(3, 8).ops(6, 0).raw(4, 4, 4)))),
                "[4 S, 6 L, 8 L]");
        same("P22 op 3 takes the first", usesOf(flushed(copy(s).add(s.head(1, 2).at(3, 8).ops(3, 1, 0).raw(4, 4, 4)))),
                "[4 L, 6 L, 8 S]");
        // above REFS: no SHORT one is left, the first of the least number goes
        Streams t = twoLong(3);
        t.add(t.head(1, 2).at(3, 8).ops(1, 1).raw(4, 4, 4));
        same("P22 three", usesOf(flushed(t)), "[2 L, 6 L, 8 S]");
        t = copy(twoLong(3)).add(t.head(1, 2).at(3, 8).ops(3, 1, 1).raw(4, 4, 4));
        same("P22 above REFS the first of the least number goes", usesOf(flushed(t)), "[4 L, 6 L, 8 S]");
    }

    private static void moved(String what, Streams s, Streams.Head h, String due) {
        VideoSuite v = decoded(copy(s).add(h.data().type(30).raw(9).unit()));
        Check.due(what + ": FAULTS", v.count(4), 0);
        same(what, list(v, 0), due);
    }

    private static void notMoved(String what, Streams s, Streams.Head h) {
        int n = h.bits().length();
        // the HEADER ends with off 1: 3 bits
        VideoSuite v = decoded(copy(s).add(h.data().type(30).raw(9).unit()));
        Check.answers(what + ": its place", n - 3, () -> v.fault(0, 1));
        Check.answers(what + ": its kind", WRONG, () -> v.fault(0, 2));
        Check.due(what + ": the SLICE was begun", v.slice(3), h.frame);
        Check.due(what + ": no BLOCK", v.slice(16), 0);
        Check.due(what + ": the PICTURE has begun", v.count(6), 1);
    }

    private static Streams.Head mover(Streams s, int n, int... moves) {
        return s.head(1, 0).at(4, 8).off(1, 0, 0).n(n).moves(0, moves);
    }

    private static void movesOfLists() {
        // FRAMES 0 .. 3 of ORDERS 0 2 4 6
        Streams s = many(4, 4);
        moved("P23 op 0", s, mover(s, 4, 0, 0), "6 4 2 0 . . . .");
        moved("P23 op 0, x 3", s, mover(s, 4, 0, 3), "0 6 4 2 . . . .");
        moved("P23 op 1, modulo", s, mover(s, 4, 1, 11), "0 6 4 2 . . . .");
        moved("P23 op 1, modulo", s, mover(s, 4, 1, 14), "6 4 2 0 . . . .");
        moved("P23 on from there", s, mover(s, 4, 0, 3, 1, 1), "0 4 6 2 . . . .");
        moved("P23 on from there", s, mover(s, 4, 0, 0, 0, 0, 0, 0, 0, 0), "6 4 2 0 . . . .");
        moved("P23 the same one again: it stands twice", s, mover(s, 4, 0, 1, 0, 15), "4 4 6 2 . . . .");
        moved("P23 beyond N it goes", s, mover(s, 2, 0, 2), "2 6 . . . . . .");
        moved("P23 one place", s, mover(s, 1, 0, 2), "2 . . . . . . .");
        moved("P23 what is missing stays behind", s, mover(s, 6, 0, 2, 0, 0), "2 0 6 4 . . . .");
        notMoved("P24 itself", s, mover(s, 4, 0, 15));
        notMoved("P24 no such one", s, mover(s, 4, 0, 4));
        notMoved("P24 the second one is none", s, mover(s, 4, 0, 0, 0, 5));
        notMoved("P24 no LONG one", s, mover(s, 4, 2, 0));
        notMoved("P24 a place of N", s, mover(s, 1, 0, 0, 0, 0));
        notMoved("P24 a place of N", s, mover(s, 3, 0, 0, 0, 0, 0, 0, 1, 0));
        same("P23 as far as they came", list(decoded(copy(s).add(mover(s, 4, 0, 2, 0, 5).skipped(1))), 0),
                "2 6 4 0 . . . .");
        s.add(s.head(1, 2).at(4, 8).ops(4, 2, 3, 1, 1).raw(1, 1, 1));
        Streams.Head h = s.head(1, 0).at(5, 20).off(1, 0, 0).n(4).moves(0, 2, 1, 0, 0);
        moved("P23 LONG, then SHORT: p is FRAME still", s, h, "4 8 6 2 . . . .");
        notMoved("P24 a LONG one is not SHORT", s, s.head(1, 0).at(5, 20).off(1, 0, 0).n(4).moves(0, 0, 2));
        // eight moves at most
        moved("P23 eight moves", s, s.head(1, 0).at(5, 20).off(1, 0, 0).n(8)
                .moves(0, 0, 0, 0, 0, 1, 0, 0, 0, 1, 0, 0, 0, 1, 0, 0, 0), "8 6 8 6 8 6 8 6");
    }

    /** OWN, long 1: number 0, and no other may be; long 0: none. */
    private static void longNumbers() {
        for (int isLong = 0; isLong < 2; isLong++) {
            Streams s = sets(4).sets();
            Streams.Head h = s.head(5, 2);
            h.isLong = isLong;
            s.add(h.raw(1, 1, 1));
            same("P22 OWN of long " + isLong, store(flushed(s)), isLong == 1 ? "L0" : "S0");
            same("P22 number 1 may not be", store(flushed(copy(s).add(s.head(1, 2).at(1, 2).ops(6, 1).raw(1, 1, 1)))),
                    isLong == 1 ? "L0 S1" : "S0 S1");
            same("P22 number 0", store(flushed(copy(s).add(s.head(1, 2).at(1, 2).ops(6, 0).raw(1, 1, 1)))),
                    isLong == 1 ? "L0" : "S0 S1");
            same("P22 op 4 before it", store(flushed(copy(s).add(s.head(1, 2).at(1, 2).ops(4, 2, 6, 1).raw(1, 1, 1)))),
                    isLong == 1 ? "L0 L1" : "S0 L1");
        }
        Streams s = sets(4).sets();
        s.add(s.head(5, 2).raw(1, 1, 1)).add(s.head(1, 2).at(1, 2).ops(4, 4, 6, 3).raw(1, 1, 1));
        same("P22 number 3", store(flushed(s)), "S0 L3");
        same("P22 numbers below 3", store(flushed(copy(s).add(s.head(1, 2).at(2, 4).ops(4, 3).raw(1, 1, 1)))), "S0 S2");
        same("P22 numbers below 4", store(flushed(copy(s).add(s.head(1, 2).at(2, 4).ops(4, 4).raw(1, 1, 1)))), "S0 L3 S2");
        Streams t = many(4, 2);
        t.add(t.head(1, 2).at(2, 4).ops(4, 2, 3, 0, 2).raw(1, 1, 1));
        same("P22 op 3 of a number that may not be", store(flushed(t)), "S0 S1 S2");
        // behind op 5 no number may be
        t = many(4, 2);
        t.add(t.head(1, 2).at(2, 4).ops(4, 2, 5, 6, 0).raw(1, 1, 1));
        same("P22 op 6 behind op 5", store(flushed(t)), "S0");
    }

    private static void slidingByReferences() {
        for (int refs = 0; refs <= 4; refs++) {
            VideoSuite v = flushed(many(refs, 8));
            Check.due("P22 REFS " + refs, v.count(5), Math.max(1, refs));
            Check.due("P22 the oldest", v.stored(0, 0), 8 - Math.max(1, refs));
        }
        // by FRAMENUM, not by FRAME
        Streams s = many(3, 16);
        s.add(s.head(1, 2).at(0, 40).raw(1, 1, 1)).add(s.head(1, 2).at(1, 42).raw(1, 1, 1));
        same("P22 FRAMES that turned", store(flushed(s)), "S15 S0 S1");
        // a LONG one counts, and stays
        Streams t = sets(2).sets();
        Streams.Head h = t.head(5, 2);
        h.isLong = 1;
        t.add(h.raw(1, 1, 1)).add(t.head(1, 2).at(1, 2).raw(1, 1, 1)).add(t.head(1, 2).at(2, 4).raw(1, 1, 1));
        same("P22 LONG ones stay", store(flushed(t)), "L0 S2");
        // all are LONG: nothing slides, but REFS hold
        t = sets(1).sets();
        t.add(h.raw(1, 1, 1)).add(t.head(1, 2).at(1, 2).raw(1, 1, 1));
        same("P22 none is SHORT: the LONG one goes above REFS", store(flushed(t)), "S1");
        // ops that do nothing are ops: no SLIDING, but REFS
        t = many(2, 2);
        t.add(t.head(1, 2).at(2, 4).ops(2, 3).raw(1, 1, 1));
        same("P22 REFS hold", store(flushed(t)), "S1 S2");
    }

    private static void opsOfShort() {
        Streams s = many(4, 4);
        for (int x = 0; x < 6; x++) {
            StringBuilder due = new StringBuilder();
            for (int f = 0; f < 4; f++) {
                due.append(f == 3 - x ? "" : "S" + f + " ");
            }
            // REFS 4: where none goes, the least one does
            String all = (x < 4 ? due.toString() : "S1 S2 S3 ") + "S4";
            same("P22 op 1, x " + x, store(flushed(copy(s).add(s.head(1, 2).at(4, 8).ops(1, x).raw(1, 1, 1)))), all);
        }
        // FRAMES 14, 15, 0: FRAMENUM -2, -1, 0 for FRAME 1
        s = many(4, 16);
        s.add(s.head(1, 2).at(0, 40).raw(1, 1, 1));
        same("P22 op 1 below 0", store(flushed(copy(s).add(s.head(1, 2).at(1, 42).ops(1, 1).raw(1, 1, 1)))), "S13 S14 S0 S1");
        same("P22 op 1 below 0", store(flushed(copy(s).add(s.head(1, 2).at(1, 42).ops(1, 2).raw(1, 1, 1)))), "S13 S15 S0 S1");
        same("P22 op 1 of none", store(flushed(copy(s).add(s.head(1, 2).at(1, 42).ops(1, 65535).raw(1, 1, 1)))),
                "S14 S15 S0 S1");
    }

    private static void opsOfLong() {
        Streams s = many(4, 3);
        s.add(s.head(1, 2).at(3, 6).ops(4, 4, 3, 2, 3, 3, 1, 1).raw(1, 1, 1));
        same("P22 two LONG ones", store(flushed(s)), "L3 L1 S2 S3");
        for (int x = 0; x < 4; x++) {
            String due = x == 1 ? "L3 S2 S3 S4" : x == 3 ? "L1 S2 S3 S4" : "L3 L1 S3 S4";
            same("P22 op 2, x " + x, store(flushed(copy(s).add(s.head(1, 2).at(4, 8).ops(2, x).raw(1, 1, 1)))), due);
            due = x == 1 ? "L3 S2 S3 L1" : x == 3 ? "L1 S2 S3 L3" : "L3 L1 S3 L" + x;
            same("P22 op 6, x " + x, store(flushed(copy(s).add(s.head(1, 2).at(4, 8).ops(6, x).raw(1, 1, 1)))), due);
            due = x == 1 ? "L3 S2 L1 S4" : x == 3 ? "L1 S2 L3 S4" : "L3 L1 L" + x + " S4";
            same("P22 op 3, y " + x, store(flushed(copy(s).add(s.head(1, 2).at(4, 8).ops(3, 0, x).raw(1, 1, 1)))), due);
        }
        for (int x = 0; x <= 4; x++) {
            String due = x < 2 ? "S2 S3 S4" : x < 4 ? "L1 S2 S3 S4" : "L3 L1 S3 S4";
            same("P22 op 4, x " + x, store(flushed(copy(s).add(s.head(1, 2).at(4, 8).ops(4, x).raw(1, 1, 1)))), due);
        }
        same("P22 op 1 takes no LONG one", store(flushed(copy(s).add(s.head(1, 2).at(4, 8).ops(1, 2).raw(1, 1, 1)))),
                "L3 L1 S3 S4");
    }

    /** Ops 2 to 5 behind a 6 leave this one alone; a second 6 is another number. */
    private static void opsBehindSix() {
        int[][] behind = {{2, 1}, {4, 0}, {4, 1}, {5}, {3, 0, 1}, {6, 0}};
        String[] due = {"S0 S1 L1", "S0 S1 L1", "S0 S1 L1", "L1", "S0 L1 L1", "S0 S1 L0"};
        for (int i = 0; i < behind.length; i++) {
            Streams s = many(4, 2);
            int[] ops = new int[4 + behind[i].length];
            ops[0] = 4;
            ops[1] = 2;
            ops[2] = 6;
            ops[3] = 1;
            System.arraycopy(behind[i], 0, ops, 4, behind[i].length);
            same("P22 behind a 6: " + Arrays.toString(behind[i]), store(flushed(s.add(s.head(1, 2).at(2, 4).ops(ops)
                    .raw(1, 1, 1)))), due[i]);
        }
    }

    private static void marksByTheFirstSlice() {
        Streams s = sets(4).size(2, 1).sets();
        s.add(s.head(5, 2).raw(1, 1, 1, 2, 2, 2)).add(s.head(1, 2).at(1, 2).raw(1, 1, 1, 2, 2, 2));
        s.add(s.head(1, 2).at(2, 4).ops(1, 0).raw(1, 1, 1)).add(s.head(1, 2).at(2, 4).from(1).ops(1, 1).raw(1, 1, 1));
        same("P22 the first SLICE's ops", store(flushed(s)), "S0 S2");
    }

    private static void noReferenceNoMarks() {
        Streams s = many(2, 2);
        s.add(s.head(1, 2).at(2, 4).ref(0).raw(1, 1, 1));
        same("P22 REF 0", store(flushed(s)), "S0 S1");
        Streams.Head h = s.head(5, 2).ref(0);
        s.add(h.raw(1, 1, 1));
        same("P22 OWN of REF 0: references stay", store(flushed(s)), "S0 S1");
        Check.due("P12 it is put out", flushed(s).count(3), 4);
    }

    /** No REFERENCE, no WAITING one of a lesser ORDER: at once. */
    private static void atOnce() {
        Streams s = sets(2).sets();
        s.add(s.head(5, 2).at(0, 10).raw(1, 1, 1));
        int[] low = {9, 10, 11};
        for (int l : low) {
            VideoSuite v = decoded(copy(s).add(s.head(1, 2).at(1, l).ref(0).raw(2, 2, 2)).add(s.sequence(3)));
            same("P12 ORDER " + l + " beside 10", orders(v), l > 10 ? "[]" : "[" + l + "]");
            Check.due("P22 ORDER " + l + " beside 10", v.count(5), l > 10 ? 2 : 1);
        }
        // a REFERENCE waits, though none is lesser
        VideoSuite v = decoded(copy(s).add(s.head(1, 2).at(1, 5).raw(2, 2, 2)).add(s.sequence(3)));
        same("P12 a REFERENCE waits", orders(v), "[]");
        Check.due("P22 it waits", v.stored(1, 4), 1);
        // one that is out already does not count
        s.add(s.sequence(3));
        v = decoded(s);
        v.flush();
        Check.due("P12 flushed", v.count(3), 1);
    }

    /** Of equal ORDERS the one stored first. */
    private static void equalOrders() {
        Streams s = sets(3).sets();
        s.add(s.head(5, 2).at(0, 10).raw(1, 1, 1)).add(s.head(1, 2).at(1, 10).raw(2, 2, 2));
        s.add(s.head(1, 2).at(2, 4).raw(3, 3, 3)).add(s.head(1, 2).at(3, 10).ref(0).raw(4, 4, 4));
        VideoSuite v = flushed(s);
        int[] due = {3, 1, 2, 4};
        for (int k = 0; k < 4; k++) {
            Check.due("P12 OUTPUT " + k, v.sample(k, 0, 0, 0), due[k]);
        }
    }

    /** As long as 6 are there, the least WAITING one goes out; what is a reference stays. */
    private static void fullStore() {
        Streams s = sets(2).sets();
        s.add(s.head(5, 2).at(0, 2).raw(1, 1, 1));
        int[] lows = {90, 80, 70, 60, 50, 40};
        for (int i = 0; i < 6; i++) {
            s.add(s.head(1, 2).at(i + 1, lows[i]).raw(i, i, i));
        }
        VideoSuite v = decoded(copy(s).add(s.sequence(3)));
        // the OWN one is out, no reference any more: it is gone; the STORE has the other six
        same("P12 the seventh", orders(v), "[2]");
        same("P22 the seventh", ordersOf(v), "[90, 80, 70, 60, 50, 40]");
        s.add(s.head(1, 2).at(7, 30).raw(7, 7, 7));
        v = decoded(copy(s).add(s.sequence(3)));
        // 40 is a reference still, and out; 50 goes, as 40 did not make room
        same("P12 the eighth", orders(v), "[2, 40, 50]");
        same("P22 the eighth", ordersOf(v), "[90, 80, 70, 60, 40, 30]");
        v.flush();
        same("P12 all", orders(v), "[2, 40, 50, 30, 60, 70, 80, 90]");
        // one that is no REFERENCE makes room too, if a lesser one waits
        Streams t = sets(2);
        t.bytes.writeBytes(s.bytes.toByteArray());
        v = decoded(t.add(s.head(1, 2).at(8, 95).ref(0).raw(9, 9, 9)).add(s.sequence(3)));
        same("P12 no REFERENCE, not at once", orders(v), "[2, 40, 50, 30, 60]");
        same("P22 it waits", ordersOf(v), "[90, 80, 70, 40, 30, 95]");
    }

    private static void ownAndDrop() {
        for (int drop = 0; drop < 2; drop++) {
            for (int ref = 0; ref < 2; ref++) {
                Streams s = many(4, 3);
                Streams.Head h = s.head(5, 2).at(0, 100).ref(ref);
                h.drop = drop;
                VideoSuite v = decoded(s.add(h.raw(9, 9, 9)).add(s.sequence(3)));
                boolean go = drop == 1 && ref == 1;
                // an OWN one that is no REFERENCE is out at once; it has no drop
                same("P12 OWN, drop " + drop + ", REF " + ref, orders(v), go ? "[]" : ref == 1 ? "[0, 2, 4]" : "[0, 2, 4, 100]");
                same("P22 OWN, drop " + drop + ", REF " + ref, usesOf(v), ref == 1 ? "[100 S]" : "[0 S, 2 S, 4 S]");
                v.flush();
                same("P12 then", orders(v), go ? "[100]" : "[0, 2, 4, 100]");
            }
        }
    }

    private static void opFiveOut() {
        Streams s = many(4, 3);
        s.add(s.head(1, 2).at(3, 1).ops(5).raw(9, 9, 9)).add(s.sequence(3));
        VideoSuite v = decoded(s);
        same("P12 op 5: all before it", orders(v), "[0, 2, 4]");
        same("P22 op 5", usesOf(v), "[0 S]");
        Check.due("P22 it waits", v.stored(0, 4), 1);
        v.flush();
        Check.due("P14 it is the last", v.sample(3, 0, 0, 0), 9);
    }

    /** What was LONG and waits still has no number. */
    private static void numbersGiven() {
        Streams s = many(4, 2);
        s.add(s.head(1, 2).at(2, 4).ops(4, 4, 3, 0, 3).raw(1, 1, 1)).add(s.head(1, 2).at(3, 6).ops(2, 3).raw(1, 1, 1));
        VideoSuite v = decoded(s.add(s.sequence(3)));
        int[] use = {1, 0, 1, 1};
        for (int i = 0; i < 4; i++) {
            Check.due("P22 use of " + i, v.stored(i, 2), use[i]);
            Check.due("P22 number of " + i, v.stored(i, 3), -1);
            Check.due("P22 it waits, " + i, v.stored(i, 4), 1);
        }
        v = flushed(many(4, 2).add(s.head(1, 2).at(2, 4).ops(4, 4, 3, 0, 3).raw(1, 1, 1)));
        Check.due("P22 its number", v.stored(1, 3), 3);
        Check.due("P22 no other has one", v.stored(0, 3), -1);
    }

    /** Pictures come and go: nothing of those that were made up, dropped or LONG is left in later ones. */
    private static void madeUpAgain() {
        Streams s = gaps(2);
        s.lowBits = 16;
        s.sets().add(s.head(5, 2).raw(1, 1, 1));
        int frame = 0;
        for (int i = 1; i < 40; i++) {
            frame = (frame + (i % 3 == 0 ? 3 : 1)) % 16;
            s.add(i % 2 == 0 ? s.head(1, 0).at(frame, 10 * i).skipped(1)
                    : s.head(1, 2).at(frame, 10 * i).data().type(3).colours(0).more(0).token("1").unit());
        }
        VideoSuite v = s.object();
        v.decode(3);
        for (int i = 1; i < 40; i++) {
            v.decode(1);
            if (i % 4 == 0) {
                v.flush();
            }
            int n = 0;
            for (int k = 0; k < v.count(5); k++) {
                boolean made = v.stored(k, 5) == 1;
                n += made ? 1 : 0;
                if (made) {
                    Check.due("P22 made up: ORDER", v.stored(k, 1), 0);
                    Check.due("P22 made up: not WAITING", v.stored(k, 4), 0);
                    Check.due("P22 made up: not trusted", v.stored(k, 6), 0);
                } else {
                    Check.due("P22 not made up: ORDER", v.stored(k, 1) % 10, 0);
                }
            }
            if (i % 3 == 0) {
                Check.due("P22 made up before " + i, n > 0 ? 1 : 0, 1);
            }
        }
        VideoSuite w = s.object();
        w.decode(400);
        w.flush();
        for (int k = 0; k < 40; k++) {
            Check.due("P13 ORDER of " + k, w.picture(k, 2), 10 * k);
            // P refers to what was made up, where that is the latest
            Check.due("P13 trusted, " + k, w.picture(k, 5), k % 6 == 0 && k > 0 ? 0 : 1);
        }
    }

    /** The latest REFERENCE's samples, though it is stored no more and others came and went since. */
    private static void latestReferenceStays() {
        Streams s = gaps(1);
        s.lowBits = 16;
        s.sets().add(s.head(5, 2).at(0, 5000).raw(1, 1, 1)).add(s.head(1, 2).at(1, 4000).raw(77, 66, 55));
        int frame = 1;
        for (int i = 0; i < 13; i++) {
            // each is out at once; before each two are made up
            frame = (frame + 3) % 16;
            s.add(s.head(1, 2).at(frame, 100 + i).ref(0).raw(i, i, i));
            frame = (frame + 15) % 16;
        }
        s.add(s.head(1, 0).at((frame + 3) % 16, 200).ref(0).skipped(1));
        VideoSuite v = s.object();
        v.decode(4);
        v.flush();
        v.decode(400);
        v.flush();
        Check.due("P24 FAULTS", v.count(4), 0);
        Check.due("P12 OUTPUTS", v.count(3), 16);
        Check.due("P14 by the latest REFERENCE", v.sample(15, 0, 3, 3), 77);
        Check.due("P14 by the latest REFERENCE", v.sample(15, 2, 3, 3), 55);
    }

    /** REPAIR by the PICTURE that ended before, though it is put out and stored no more. */
    private static void endedStays() {
        Streams s = sets(1).size(2, 1).sets();
        s.add(s.head(5, 2).at(0, 100).raw(50, 50, 50, 60, 60, 60));
        for (int i = 0; i < 6; i++) {
            s.add(s.head(1, 2).at(1, 10 + 2 * i).ref(0).raw(70 + i, 1, 1, 80 + i, 2, 2));
            s.add(s.head(1, 2).at(1, 11 + 2 * i).ref(0).raw(90, 3, 3));
        }
        VideoSuite v = s.object();
        v.repair(1);
        v.decode(400);
        v.flush();
        for (int i = 0; i < 6; i++) {
            Check.due("P13 ORDER", v.picture(2 * i + 1, 2), 11 + 2 * i);
            Check.due("P10 by the one before, " + i, v.sample(2 * i + 1, 0, 20, 5), 80 + i);
            Check.due("P10 its chroma, " + i, v.sample(2 * i + 1, 1, 12, 5), 2);
        }
        // way 3, moved to where the one that is REPAIRED has other samples
        Streams t = sets(1).size(2, 1).sets();
        t.add(t.head(5, 2).at(0, 100).raw(50, 50, 50, 60, 60, 60));
        t.add(t.head(1, 2).at(1, 10).ref(0).raw(70, 1, 1, 80, 2, 2));
        t.add(t.head(1, 0).at(1, 11).ref(0).data().type(0).move(-64, 0).pattern(0).unit());
        v = t.object();
        v.repair(3);
        v.decode(400);
        v.flush();
        Check.due("P14 by list 0", v.sample(1, 0, 5, 5), 50);
        Check.due("P10 by the one before, moved", v.sample(1, 0, 20, 5), 70);
        Check.due("P10 its chroma, moved", v.sample(1, 2, 12, 5), 1);
    }

    /** What is told behind some of the UNITS, and of all of them. */
    private static String told(VideoSuite v, int from) {
        StringBuilder t = new StringBuilder();
        if (from > 0) {
            v.decode(from);
        }
        for (int k = 0; k < 4; k++) {
            v.decode(1);
            t.append(store(v)).append('|').append(ordersOf(v)).append('|').append(list(v, 0)).append('|').append(v.count(4));
            t.append('|').append(v.count(7)).append('|').append(Check.told(() -> v.slice(17))).append(' ');
        }
        v.decode(400);
        int outputs = v.flush();
        for (int k = 0; k < outputs; k++) {
            t.append(v.picture(k, 2)).append(':').append(v.sum(k, 0)).append(' ');
        }
        int faults = v.count(4);
        for (int i = 0; i < faults; i++) {
            t.append(v.fault(i, 0)).append(':').append(v.fault(i, 1)).append(' ');
        }
        return t.toString();
    }

    /** Behind anew and split all is as it was at first, whatever was decoded before. */
    private static void asAtFirst() {
        Streams s = gaps(3);
        s.add(s.sequence(0)).add(s.parameters(0, 0));
        // nothing ACTIVE yet; an OWN one that is no REFERENCE: no LONG number may be, LOW before is 0, no REFERENCE is there
        s.add(s.head(1, 2).at(1, 5).raw(9, 9, 9)).add(s.head(5, 2).ref(0).raw(1, 1, 1));
        s.add(s.head(1, 0).at(2, 200).skipped(1)).add(s.head(1, 2).at(3, 201).ops(6, 0).raw(2, 2, 2));
        s.add(s.head(1, 2).at(4, 3).ops(4, 4).raw(3, 3, 3)).add(s.head(1, 2).at(5, 120).ops(6, 3).raw(4, 4, 4));
        s.add(s.head(1, 2).at(9, 240).raw(5, 5, 5)).add(s.head(1, 0).at(10, 242).n(4).skipped(1));
        s.add(s.head(1, 2).at(10, 244).n(4).raw(5, 5, 5)).add(Streams.bytes(6));
        int n = s.object().count(1);
        for (int from = 0; from < n; from += 4) {
            VideoSuite fresh = s.object();
            String first = told(fresh, from);
            Check.due("there are FAULTS", fresh.count(4) > 0 ? 1 : 0, 1);
            for (int way = 0; way < 4; way++) {
                VideoSuite v = s.object();
                v.decode(way == 3 ? 7 : 400);
                if (way == 1) {
                    s.give(v);
                } else if (way == 2) {
                    v.mux();
                    v.demux();
                } else {
                    v.anew();
                }
                same("as at first by way " + way, told(v, from), first);
            }
        }
    }

    /** All SETS are gone, and the lists. */
    private static void setsGone() {
        Streams s = sets(1);
        for (int id = 0; id < 4; id++) {
            s.add(s.sequence(id)).add(s.parameters(id, id));
        }
        s.add(s.head(5, 2).raw(1, 1, 1)).add(s.head(1, 0).at(1, 2).skipped(1));
        VideoSuite v = decoded(s);
        Check.due("P23 entry", v.entry(0, 0), 0);
        for (int id = 0; id < 4; id++) {
            Check.due("P16 SEQUENCE " + id, v.set(0, id, 0), 1);
            Check.due("P16 PARAMETERS " + id, v.set(1, id, 0), id);
        }
        v.anew();
        Check.missing("P9 no entry", () -> v.entry(0, 0));
        for (int id = 0; id < 4; id++) {
            int k = id;
            Check.missing("P9 no SEQUENCE " + id, () -> v.set(0, k, 0));
            Check.missing("P9 no PARAMETERS " + id, () -> v.set(1, k, 0));
        }
        Check.due("P9 UNITS", v.anew(), s.object().count(1));
        Check.due("P9 none is decoded", v.unit(0, 5), 0);
    }
}
