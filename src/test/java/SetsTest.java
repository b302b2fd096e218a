/** Promises 16, 17, 24 and 25: SETS, HEADERS, FAULTS and ELEMENTS. */
public final class SetsTest {
    public static void main(String[] args) {
        sequenceTold();
        sequenceKinds();
        sequenceFaults();
        parametersTold();
        parametersFaults();
        setWrong();
        headerTold();
        headerOfB();
        headerFaults();
        headerSets();
        moreHeaderFaults();
        elementsTold();
        manyElements();
        manyFaults();
        dataFaults();
        arithFaults();
        passedOver();
        Check.end();
    }

    private static VideoSuite decoded(Streams s) {
        VideoSuite v = s.object();
        v.decode(400);
        return v;
    }

    private static void row(String what, VideoSuite v, int kind, int id, int... due) {
        for (int i = 0; i < due.length; i++) {
            Check.due(what + " set(" + kind + ", " + id + ", " + i + ")", v.set(kind, id, i), due[i]);
        }
    }

    private static void fault(String what, VideoSuite v, int i, int unit, int place, int kind) {
        Check.answers(what + " fault's UNIT", unit, () -> v.fault(i, 0));
        Check.answers(what + " fault's place", place, () -> v.fault(i, 1));
        Check.answers(what + " fault's kind", kind, () -> v.fault(i, 2));
    }

    private static void sequenceTold() {
        Streams s = new Streams().size(3, 7);
        s.frameBits = 9;
        s.lowBits = 16;
        s.refs = 4;
        s.gaps = 1;
        s.crop = new int[] {1, 2, 3, 0};
        VideoSuite v = decoded(s.add(s.sequence(2)));
        row("P16", v, 0, 2, 3, 7, 9, 0, 16, 4, 1, 1, 2, 3, 0);
        Check.due("P24 no faults", v.count(4), 0);
        Check.missing("P16 SEQUENCE 0", () -> v.set(0, 0, 0));
    }

    private static void sequenceKinds() {
        Streams s = new Streams();
        s.kind = 1;
        s.same = 0;
        s.apart = -32768;
        s.below = 32767;
        s.turns = new int[] {1, -2, 3, 4, 5, 6, 7, 8};
        s.refs = 0;
        VideoSuite v = decoded(s.add(s.sequence(3)));
        row("P16 kind 1", v, 0, 3, 1, 1, 4, 1, 0, 0, 0, 0, 0, 0, 0);
        s.kind = 2;
        s.frameBits = 16;
        row("P16 kind 2", decoded(s.add(s.sequence(3))), 0, 3, 1, 1, 16, 2, 0, 0, 0);
    }

    /** A SEQUENCE with one ELEMENT that is another one; where it stands and what it is. */
    private static void sequenceFaults() {
        Bits head = new Bits().u(24, 0x4d0028);
        String[] texts = {
            bits(head, 4), bits(head, 0, 13), bits(head, 0, 0, 3), bits(head, 0, 0, 0, 13), bits(head, 0, 0, 0, 0, 5),
        };
        int[] places = {24, 25, 26, 27, 28};
        for (int i = 0; i < texts.length; i++) {
            Streams s = new Streams();
            s.add(s.sequence(0)).add(new Bits().put(texts[i]).u(20, 0).unit(0x67));
            VideoSuite v = decoded(s);
            fault("P24 OUT " + i, v, 0, 1, places[i], 2);
            row("P16 what was there stays", v, 0, 0, 1, 1, 4);
            Check.due("P25 out of range is not among them", v.count(8), 3 + i);
        }
        Bits b = new Bits().put(bits(head, 0, 0, 0, 0, 1)).u(1, 0).ue(7);
        fault("P24 HEIGHT 8", decoded(new Streams().add(new Bits().put(text(b)).ue(8).u(20, 0).unit(0x67))), 0, 0, 39, 2);
        VideoSuite v = decoded(new Streams().add(new Bits().put(text(b)).ue(4).u(20, 0).unit(0x67)));
        fault("P24 8 by 5", v, 0, 0, 39, 2);
        Check.due("P25 the product is found wrong behind it", v.count(8), 11);
        Check.due("P25 HEIGHT", v.element(10, 2), 4);
        b = new Bits().put(bits(head, 0, 0, 0, 0, 1)).u(1, 0).ue(0).ue(0);
        v = decoded(new Streams().add(new Bits().put(text(b)).u(1, 0).u(9, 0).unit(0x67)));
        fault("P24 a flag that must be 1", v, 0, 0, 34, 2);
        Check.due("P25 a u is among them", v.count(8), 12);
        v = decoded(new Streams().add(new Bits().put(text(b)).u(4, 12).unit(0x67)));
        Check.due("P24 whole", v.count(4), 0);
        v = decoded(new Streams().add(new Bits().put(text(b)).u(4, 13).unit(0x67)));
        fault("P24 a flag that must be 0", v, 0, 0, 37, 2);
        v = decoded(new Streams().add(new Bits().u(20, 1).plain(0x67)));
        fault("P24 END", v, 0, 0, 24, 1);
        v = decoded(new Streams().add(new Bits().u(24, 1).u(40, 0).plain(0x67)));
        fault("P24 32 zeros", v, 0, 0, 24, 2);
        v = decoded(new Streams().add(new Bits().u(24, 1).u(24, 0).plain(0x67)));
        fault("P24 24 zeros, then END", v, 0, 0, 24, 1);
    }

    private static String bits(Bits head, int... ues) {
        Bits b = new Bits().put(text(head));
        for (int v : ues) {
            b.ue(v);
        }
        return text(b);
    }

    private static String text(Bits b) {
        byte[] d = b.plain(0x80);
        StringBuilder t = new StringBuilder();
        int zeros = 0;
        for (int i = 1; i < d.length; i++) {
            if (zeros >= 2 && d[i] == 3) {
                zeros = 0;
                continue;
            }
            zeros = d[i] == 0 ? zeros + 1 : 0;
            t.append(Integer.toBinaryString(d[i] & 255 | 256).substring(1));
        }
        return t.substring(0, b.length());
    }

    private static void parametersTold() {
        Streams s = new Streams();
        s.coding = 1;
        s.pair = 1;
        s.n0 = 8;
        s.n1 = 3;
        s.weighted = 1;
        s.both = 2;
        s.step = 0;
        s.apartStep = -12;
        s.edges = 0;
        s.own = 1;
        VideoSuite v = decoded(s.add(s.parameters(3, 2)));
        row("P16 PARAMETERS", v, 1, 3, 2, 1, 1, 8, 3, 1, 2, -26, -12, 0, 1);
        s = new Streams();
        s.step = 51;
        s.apartStep = 12;
        row("P16 PARAMETERS", decoded(s.add(s.parameters(0, 0))), 1, 0, 0, 0, 0, 1, 1, 0, 0, 25, 12, 1, 0);
    }

    private static void parametersFaults() {
        Bits b = new Bits().ue(0).ue(0).u(2, 0).ue(0).ue(0).ue(0).u(1, 0);
        fault("P24 both 3", decoded(new Streams().add(new Bits().put(text(b)).u(2, 3).u(20, 0).unit(0x68))), 0, 0, 8, 2);
        Bits c = new Bits().put(text(b)).u(2, 0);
        fault("P24 STEP 26", decoded(new Streams().add(new Bits().put(text(c)).se(26).u(20, 0).unit(0x68))), 0, 0, 10, 2);
        fault("P24 STEP -27", decoded(new Streams().add(new Bits().put(text(c)).se(-27).u(20, 0).unit(0x68))), 0, 0, 10, 2);
        c.se(0).se(0);
        fault("P24 APART 13", decoded(new Streams().add(new Bits().put(text(c)).se(13).u(20, 0).unit(0x68))), 0, 0, 12, 2);
        c.se(0).u(2, 0);
        fault("P24 the last flag", decoded(new Streams().add(new Bits().put(text(c)).u(1, 1).unit(0x68))), 0, 0, 15, 2);
        fault("P24 id 4", decoded(new Streams().add(new Bits().ue(4).u(9, 0).unit(0x68))), 0, 0, 0, 2);
        fault("P24 SEQUENCE 4", decoded(new Streams().add(new Bits().ue(0).ue(4).u(9, 0).unit(0x68))), 0, 0, 1, 2);
        fault("P24 ue 1 where 0 is due", decoded(new Streams().add(new Bits().ue(0).ue(0).u(2, 0).ue(1).u(9, 0)
                .unit(0x68))), 0, 0, 4, 2);
    }

    private static void setWrong() {
        VideoSuite v = decoded(new Streams().sets());
        Check.bad("P16 kind 2", () -> v.set(2, 0, 0));
        Check.bad("P16 kind -1", () -> v.set(-1, 0, 0));
        Check.bad("P16 what 11", () -> v.set(0, 0, 11));
        Check.bad("P16 what -1", () -> v.set(1, 0, -1));
        Check.bad("P16 bad before missing", () -> v.set(0, 3, 11));
        Check.missing("P16 id 4", () -> v.set(0, 4, 0));
        Check.missing("P16 id -1", () -> v.set(1, -1, 0));
        Check.missing("P16 not there", () -> v.set(1, 1, 0));
    }

    private static void headerTold() {
        Streams s = new Streams().size(2, 1).sets();
        Streams.Head h = s.head(5, 2).at(0, 5);
        h.ownId = 65535;
        h.more = 9;
        h.off(2, -6, 6);
        h.ref(3);
        VideoSuite v = decoded(s.add(h.raw(1, 2, 3, 4, 5, 6)));
        int[] due = {0, 2, 0, 0, 65535, 5, 0, 0, 0, 0, 0, 3, 35, 2, -6, 6, 2, 5};
        for (int i = 0; i < due.length; i++) {
            Check.due("P17 slice(" + i + ")", v.slice(i), due[i]);
        }
        Check.bad("P17 what 18", () -> v.slice(18));
        Check.bad("P17 what -1", () -> v.slice(-1));
        Check.due("P41 SLICES begun", v.count(7), 1);
        s.pair = 1;
        s.n0 = 3;
        Streams t = new Streams().size(2, 1);
        t.pair = 1;
        t.n0 = 3;
        t.edges = 0;
        t.sets().add(t.head(5, 2).raw(1, 2, 3, 4, 5, 6));
        h = t.head(1, 0).from(0).at(1, 2);
        h.d0 = -7;
        VideoSuite w = decoded(t.add(h.skipped(2)));
        int[] dueP = {0, 0, 0, 1, 0, 2, -7, 0, 0, 3, 0, 1, 26, 0, 0, 0, 2, -5};
        for (int i = 0; i < dueP.length; i++) {
            Check.due("P17 of P, slice(" + i + ")", w.slice(i), dueP[i]);
        }
    }

    private static void headerOfB() {
        Streams s = new Streams();
        s.kind = 1;
        s.same = 0;
        s.pair = 1;
        s.refs = 2;
        s.turns = new int[] {4};
        s.n1 = 2;
        s.sets().add(s.head(5, 2).raw(1, 2, 3)).add(s.head(1, 0).at(1, 0).skipped(1));
        Streams.Head h = s.head(1, 1).at(2, 0).ref(0).n(5, 8);
        h.d0 = -9;
        h.d1 = 11;
        h.more = -26;
        VideoSuite v = decoded(s.add(h.skipped(1)));
        int[] due = {0, 1, 0, 2, 0, 0, -9, 11, 1, 5, 8, 0, 0, 0, 0, 0, 1, -5};
        for (int i = 0; i < due.length; i++) {
            Check.due("P17 of B, slice(" + i + ")", v.slice(i), due[i]);
        }
    }

    private static void headerFaults() {
        Streams s = new Streams().size(2, 2).sets();
        String[] texts = {
            text(new Bits().ue(4).ue(7).ue(0)), text(new Bits().ue(0).ue(0)), text(new Bits().ue(0).ue(3)),
            text(new Bits().ue(0).ue(9)), text(new Bits().ue(0).ue(10)), text(new Bits().ue(0).ue(2).ue(4)),
            text(new Bits().ue(0).ue(2).ue(1)), text(new Bits().ue(0).ue(2).ue(0).u(4, 1).ue(0)),
            text(new Bits().ue(0).ue(2).ue(0).u(4, 0).ue(65536)),
        };
        int[] places = {0, 1, 1, 1, 1, 4, 4, 5, 9};
        int[] kinds = {2, 2, 2, 2, 2, 2, 3, 2, 2};
        int[] elements = {3, 2, 2, 2, 1, 2, 3, 4, 4};
        for (int i = 0; i < texts.length; i++) {
            Streams t = new Streams().size(2, 2).sets();
            t.add(new Bits().put(texts[i]).u(40, 0).unit(0x65));
            VideoSuite v = decoded(t);
            fault("P24 HEADER " + i, v, 0, 2, places[i], kinds[i]);
            Check.due("P25 HEADER " + i, v.count(8), elements[i]);
            Check.due("P17 nothing was begun " + i, v.count(7), 0);
        }
        s.add(s.head(5, 2).raw(new int[12]));
        Bits h = new Bits().ue(0).ue(2).ue(0).u(4, 0).ue(0).u(4, 0).u(2, 0);
        s.add(new Bits().put(text(h)).se(-27).u(9, 0).unit(0x65));
        s.add(new Bits().put(text(h)).se(26).u(9, 0).unit(0x65));
        s.add(new Bits().put(text(h)).se(0).ue(3).u(9, 0).unit(0x65));
        s.add(new Bits().put(text(h)).se(0).ue(0).se(7).u(9, 0).unit(0x65));
        VideoSuite v = decoded(s);
        Check.due("P24 count(4)", v.count(4), 4);
        for (int i = 0; i < 4; i++) {
            fault("P24 behind " + i, v, i, 3 + i, i < 2 ? h.length() : h.length() + i - 1, 2);
        }
        Check.due("P41 one SLICE was begun", v.count(7), 1);
    }

    private static void headerSets() {
        Streams s = new Streams();
        s.add(s.sequence(1)).add(s.parameters(0, 0)).add(s.parameters(1, 1));
        s.add(s.head(5, 2).raw(1, 1, 1));
        Streams.Head h = s.head(1, 2).at(1, 2);
        h.pars = 1;
        s.add(h.raw(1, 1, 1));
        h = s.head(5, 2);
        h.pars = 1;
        s.add(h.raw(1, 1, 1)).add(s.sequence(0)).add(s.head(1, 2).at(1, 2).raw(2, 2, 2));
        h = s.head(1, 2).at(1, 2);
        h.pars = 1;
        s.add(h.raw(3, 3, 3));
        VideoSuite v = decoded(s);
        fault("P24 SEQUENCE isn't there", v, 0, 3, 4, 3);
        fault("P24 nothing ACTIVE", v, 1, 4, 4, 3);
        fault("P24 ACTIVE is of another id", v, 2, 7, 4, 3);
        Check.due("P24 three FAULTS", v.count(4), 3);
        Check.due("P41 SLICES", v.count(7), 2);
    }

    private static void moreHeaderFaults() {
        Streams s = new Streams();
        s.refs = 2;
        s.sets().add(s.head(5, 2).raw(1, 1, 1));
        Bits h = new Bits().ue(0).ue(0).ue(0).u(4, 1).u(4, 2).u(1, 0).u(1, 1);
        for (int i = 0; i < 8; i++) {
            h.ue(0).ue(0);
        }
        s.add(new Bits().put(text(h)).ue(0).u(9, 0).unit(0x21));
        Bits g = new Bits().ue(0).ue(0).ue(0).u(4, 1).u(4, 2).u(1, 0).u(1, 0).u(1, 1);
        for (int i = 0; i < 12; i++) {
            g.ue(5);
        }
        s.add(new Bits().put(text(g)).ue(5).u(9, 0).unit(0x21));
        Bits f = new Bits().ue(0).ue(0).ue(0).u(4, 1).u(4, 2).u(1, 0).u(1, 1).ue(0);
        s.add(new Bits().put(text(f)).ue(16).u(9, 0).unit(0x21));
        Bits k = new Bits().ue(0).ue(0).ue(0).u(4, 1).u(4, 2).u(1, 0).u(1, 1).ue(2);
        s.add(new Bits().put(text(k)).ue(4).u(9, 0).unit(0x21));
        Bits e = new Bits().ue(0).ue(0).ue(0).u(4, 1).u(4, 2).u(1, 0).u(1, 0).u(1, 1).ue(4);
        s.add(new Bits().put(text(e)).ue(5).u(9, 0).unit(0x21));
        VideoSuite v = decoded(s);
        fault("P24 a 9th move", v, 0, 3, h.length(), 2);
        fault("P24 a 13th op", v, 1, 4, g.length(), 2);
        fault("P24 a move's x", v, 2, 5, f.length(), 2);
        fault("P24 a LONG move's x", v, 3, 6, k.length(), 2);
        fault("P24 op 4's x", v, 4, 7, e.length(), 2);
        VideoSuite w = s.object();
        w.decode(4);
        Check.due("P25 the 9th move is among them", w.count(8), 7 + 17);
        Check.due("P25 its value", w.element(23, 2), 0);
        w.decode(1);
        Check.due("P25 the 13th op is among them", w.count(8), 8 + 13);
        Check.due("P25 its value", w.element(20, 2), 5);
    }

    private static void elementsTold() {
        VideoSuite v = decoded(new Streams().add(new Streams().parameters(2, 3)));
        int[] value = {2, 3, 0, 0, 0, 0, 0, 0, 0, 0, 0, 0, 1, 0, 0};
        int[] bits = {3, 5, 1, 1, 1, 1, 1, 1, 2, 1, 1, 1, 1, 1, 1};
        int place = 0;
        Check.due("P25 count(8)", v.count(8), value.length);
        for (int i = 0; i < value.length; i++) {
            Check.due("P25 place of " + i, v.element(i, 0), place);
            Check.due("P25 bits of " + i, v.element(i, 1), bits[i]);
            Check.due("P25 value of " + i, v.element(i, 2), value[i]);
            place += bits[i];
        }
        Check.bad("P25 what 3", () -> v.element(0, 3));
        Check.bad("P25 what -1", () -> v.element(99, -1));
        Check.missing("P25 ELEMENT 15", () -> v.element(15, 0));
        Check.missing("P25 ELEMENT -1", () -> v.element(-1, 0));
        Streams s = new Streams();
        s.refs = 3;
        s.n0 = 2;
        s.sets().add(s.head(5, 2).raw(9, 9, 9)).add(s.head(1, 0).at(1, 2).skipped(1));
        Streams.Head h = s.head(1, 0).at(2, 4);
        h.more = -3;
        VideoSuite w = decoded(s.add(h.unit(h.bits().ue(0).ue(1).te(1, 1).te(1, 0).se(5).se(-5).se(-4).se(9).ue(0))));
        int n = w.count(8);
        int[] tail = {0, 1, 1, 0, 5, -5, -4, 9, 0};
        for (int i = 0; i < tail.length; i++) {
            Check.due("P25 DATA " + i, w.element(n - tail.length + i, 2), tail[i]);
        }
        Check.due("P25 te is one bit", w.element(n - 7, 1), 1);
        Check.due("P25 step", w.element(n - 13, 2), -3);
    }

    private static void manyElements() {
        Streams s = new Streams().size(8, 2).sets();
        int[] raw = new int[48];
        java.util.Arrays.fill(raw, 5);
        VideoSuite v = decoded(s.add(s.head(5, 2).raw(raw)));
        Check.due("P41 ELEMENTS, also beyond 4000", v.count(8), 12 + 16 * 385 - aligned(s));
        Check.due("P25 ELEMENT 3999", v.element(3999, 1), 8);
        Check.due("P25 ELEMENT 3999", v.element(3999, 2), 5);
        Check.missing("P25 ELEMENT 4000", () -> v.element(4000, 0));
    }

    /** A BLOCK's type has 9 bits: how many of the 16 RAW ones are followed by no bits 0. */
    private static int aligned(Streams s) {
        int place = s.head(5, 2).bits().length();
        int n = 0;
        for (int i = 0; i < 16; i++) {
            place += 9;
            n += place % 8 == 0 ? 1 : 0;
            place = (place + 7) / 8 * 8;
        }
        // the HEADER has 12 ELEMENTS, and 16 types are told besides
        return n - 16;
    }

    private static void manyFaults() {
        byte[] all = new byte[4 * 230];
        for (int i = 0; i < 230; i++) {
            all[4 * i + 2] = 1;
            all[4 * i + 3] = 0x67;
        }
        VideoSuite v = new VideoSuite();
        Streams.feed(v, all);
        v.split(0);
        v.decode(400);
        Check.due("P41 FAULTS, also beyond 200", v.count(4), 230);
        Check.due("P24 FAULT 199", v.fault(199, 0), 199);
        Check.missing("P24 FAULT 200", () -> v.fault(200, 0));
        Check.missing("P24 FAULT -1", () -> v.fault(-1, 0));
        Check.bad("P24 what 3", () -> v.fault(0, 3));
        Check.bad("P24 bad before missing", () -> v.fault(300, -1));
        v.anew();
        Check.due("P9 no FAULTS", v.count(4), 0);
        Check.missing("P9 no FAULTS", () -> v.fault(0, 0));
    }

    /** What is wrong in DATA by TABLES. */
    private static void dataFaults() {
        Streams s = new Streams().size(2, 2).sets();
        Streams.Head h = s.head(5, 2);
        int at = h.bits().length();
        fault("P24 a type of 26", decoded(one(s, h.unit(h.bits().ue(26)))), 0, 2, at, 2);
        fault("P24 a mode that may not be", decoded(one(s, h.unit(h.bits().ue(1).ue(0)))), 0, 2, at, 4);
        fault("P24 colours' mode 4", decoded(one(s, h.unit(h.bits().ue(3).ue(4)))), 0, 2, at + 5, 2);
        fault("P24 colours' mode that may not be", decoded(one(s, h.unit(h.bits().ue(3).ue(1)))), 0, 2, at + 5, 4);
        fault("P24 more 26", decoded(one(s, h.unit(h.bits().ue(3).ue(0).se(26)))), 0, 2, at + 6, 2);
        fault("P24 no code begins so", decoded(one(s, h.unit(h.bits().ue(3).ue(0).se(0).u(17, 1)))), 0, 2, at + 7, 4);
        fault("P24 FOUR: a mode that may not be", decoded(one(s, h.unit(h.bits().ue(0).u(1, 0).u(3, 0)))), 0, 2,
                at + 2, 4);
        fault("P24 BITS end", decoded(one(s, h.bits().ue(3).plain(h.lead()))), 0, 2, at + 5, 1);
        VideoSuite v = decoded(one(s, h.unit(h.bits().ue(25).u((-at - 9 & 7) - 1, 0).u(1, 1).u(900, 0))));
        fault("P24 RAW: a bit that is not 0", v, 0, 2, at + 9, 2);
        Check.due("P25 the bits up to RAW are among them", v.element(v.count(8) - 1, 2), 1);
        v = decoded(one(s, h.raw(1, 2, 3, 4, 5, 6, 7, 8, 9, 10, 11, 12, 13, 14, 15)));
        Check.due("P24 one BLOCK too many", v.fault(0, 2), 4);
        Check.due("P17 BLOCKS decoded", v.slice(16), 4);
        Streams t = one(s, h.raw(1, 2, 3, 4, 5, 6)).add(s.head(5, 2).from(1).raw(7, 8, 9));
        v = decoded(t);
        Check.due("P24 a BLOCK that is there already", v.fault(0, 2), 4);
        Check.due("P24 where the last ELEMENT of the HEADER began", v.fault(0, 1), s.head(5, 2).from(1).bits().length() - 1);
        Check.due("P17 BLOCKS decoded", v.slice(16), 0);
        Check.due("P18 it stays", v.block(1, 0), 2);
    }

    private static Streams one(Streams sets, byte[] unit) {
        Streams s = new Streams().size(sets.width, sets.height);
        s.coding = sets.coding;
        return s.sets().add(unit);
    }

    /** In ARITH's DATA a place is how many bits are taken. */
    private static void arithFaults() {
        Streams s = new Streams().size(2, 2);
        s.coding = 1;
        Streams.Head h = s.head(5, 2);
        int at = h.bits().length();
        VideoSuite v = decoded(one(s, h.unit(h.bits().u(1, 1).u(30, 0))));
        fault("P24 a bit that is not 1", v, 0, 2, at + 2, 2);
        v = decoded(one(s, h.bits().align(1).u(8, 0x55).plain(h.lead())));
        fault("P24 BITS end", v, 0, 2, (at + 7) / 8 * 8 + 8, 1);
        Check.due("P25 of ARITH those of the HEADER", v.count(8), 12);
        Check.due("P17 a SLICE was begun", v.count(7), 1);
        Streams t = new Streams().size(2, 2);
        t.coding = 1;
        t.sets().add(t.head(5, 2).unit(h.bits().align(1).u(9, 0).u(300, 0)));
        v = decoded(t);
        Check.due("P24 one FAULT", v.count(4), 1);
        Check.due("P24 taken whole", v.fault(0, 1) > (at + 7) / 8 * 8 + 8 ? 1 : 0, 1);
    }

    private static void passedOver() {
        Streams s = new Streams().sets().add(Streams.bytes(0x06, 1, 2)).add(Streams.bytes(0xe7, 0, 1));
        VideoSuite v = s.object();
        v.decode(3);
        Check.due("P25 no ELEMENTS of TYPE 6", v.count(8), 0);
        v.decode(1);
        Check.due("P24 a highest bit 1 is passed over", v.count(4), 0);
        Check.due("P11 decoded", v.count(2), 4);
    }
}
