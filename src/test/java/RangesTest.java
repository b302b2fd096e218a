/**
 * Sections 1 to 3: each ELEMENT of SETS and HEADERS at the ends of its range and beyond them, and BITS that end in
 * each of them.
 */
public final class RangesTest {
    private static final int END = 1;
    private static final int OUT = 2;
    private static final int NO_SET = 3;

    public static void main(String[] args) {
        sequences();
        products();
        parameters();
        ownHeader();
        headersOfP();
        headersOfB();
        headersByPairs();
        opsOfHeaders();
        firsts();
        sorts();
        steps();
        whichSets();
        bitsOfFrame();
        endlessNumbers();
        lastParameters();
        eightWeights();
        weightsOfBoth();
        numbersOfP();
        Check.end();
    }

    private static VideoSuite decoded(Streams s, byte[] unit) {
        Streams t = new Streams();
        t.bytes.writeBytes(s.bytes.toByteArray());
        VideoSuite v = t.add(unit).object();
        v.decode(400);
        return v;
    }

    private static void fault(String what, VideoSuite v, int place, int kind) {
        Check.due(what + ": FAULTS", v.count(4), 1);
        Check.answers(what + ": its UNIT", v.count(1) - 1, () -> v.fault(0, 0));
        Check.answers(what + ": its place", place, () -> v.fault(0, 1));
        Check.answers(what + ": its kind", kind, () -> v.fault(0, 2));
    }

    /** A SET: whole at the ends of each range, FAULTS beyond them and where BITS end. */
    private static void set(String what, int lead, Elements e) {
        for (int i = 0; i < e.size(); i++) {
            for (long x : e.ends(i)) {
                VideoSuite v = decoded(new Streams(), e.bits(e.size(), i, x).unit(lead));
                Check.due(what + " " + e.name(i) + " " + x + ": FAULTS", v.count(4), 0);
                Check.due(what + " " + e.name(i) + " " + x + ": ELEMENTS", v.count(8), e.size());
                Check.due(what + " " + e.name(i) + " " + x + ": its value", v.element(i, 2), (int) x);
            }
        }
        beyond(what, lead, new Streams(), e);
        cut(what, lead, new Streams(), e);
    }

    private static void beyond(String what, int lead, Streams before, Elements e) {
        for (int i = 0; i < e.size(); i++) {
            for (long x : e.beyond(i)) {
                if (x != Elements.WITHOUT) {
                    String name = what + " " + e.name(i) + " " + x;
                    VideoSuite v = decoded(before, e.bits(i + 1, i, x).u(24, 0xffffff).unit(lead));
                    fault(name, v, e.place(i), OUT);
                    // a u is among the ELEMENTS, though it is OUT
                    Check.due(name + ": ELEMENTS", v.count(8), e.isPlain(i) ? i + 1 : i);
                }
            }
        }
    }

    /** BITS end behind each byte: the FAULT is where the ELEMENT began that is not whole. */
    private static void cut(String what, int lead, Streams before, Elements e) {
        byte[] whole = e.bits().plain(lead);
        for (int n = 1; 8 * (n - 1) < e.bits().length(); n++) {
            byte[] unit = java.util.Arrays.copyOf(whole, n);
            if (unit[n - 1] == 3) {
                continue;
            }
            int i = e.at(8 * (payload(unit) - 1));
            VideoSuite v = decoded(before, unit);
            fault(what + " of " + n + " bytes, in " + e.name(i), v, e.place(i), END);
            Check.due(what + " of " + n + " bytes: ELEMENTS", v.count(8), i);
        }
    }

    private static int payload(byte[] unit) {
        VideoSuite v = new VideoSuite();
        Streams.feed(v, new byte[] {(byte) unit.length});
        Streams.feed(v, unit);
        v.split(1);
        return v.unit(0, 3);
    }

    private static Elements sequence(int id, int f, int kind) {
        return new Elements().u("first", 8, 77).u("second", 8, 3).u("third", 8, 40).ue("id", id, 3).ue("f", f, 12)
                .ue("kind", kind, 2).tells();
    }

    private static Elements rest(Elements e, int crop) {
        e.ue("REFS", 1, 4).u("gaps", 1, 0).ue("WIDTH", 0, 7).ue("HEIGHT", 0, 7).flag("one", 1).flag("one more", 1);
        e.u("crop", 1, crop).tells();
        if (crop == 1) {
            e.ue("left", 1, 3).ue("right", 2, 3).ue("top", 0, 3).ue("bottom", 3, 3);
        }
        return e.flag("zero", 0);
    }

    private static void sequences() {
        set("SEQUENCE of kind 0", 0x67, rest(sequence(1, 3, 0).ue("l", 5, 12), 0));
        set("SEQUENCE of kind 0, cropped", 0x67, rest(sequence(0, 12, 0).ue("l", 0, 12), 1));
        set("SEQUENCE of kind 2", 0x67, rest(sequence(3, 0, 2), 1));
        Elements one = sequence(2, 7, 1).u("same", 1, 1).se("apart", -9, -32768, 32767).se("below", 8, -32768, 32767)
                .ue("n", 0, 8).tells();
        set("SEQUENCE of kind 1", 0x67, rest(one, 0));
        one = sequence(2, 7, 1).u("same", 1, 0).se("apart", 700, -32768, 32767).se("below", -1, -32768, 32767)
                .ue("n", 8, 8).tells();
        for (int i = 0; i < 8; i++) {
            one.se("turn " + i, i - 3, -32768, 32767);
        }
        set("SEQUENCE of kind 1 with turns", 0x67, rest(one, 1));
    }

    /** WIDTH times HEIGHT: 32 at most. */
    private static void products() {
        for (int w = 1; w <= 8; w++) {
            for (int h = 1; h <= 8; h++) {
                Streams s = new Streams().size(w, h);
                VideoSuite v = decoded(new Streams(), s.sequence(0));
                if (w * h <= 32) {
                    Check.due(w + " by " + h + ": FAULTS", v.count(4), 0);
                    Check.due(w + " by " + h + ": WIDTH", v.set(0, 0, 0), w);
                    Check.due(w + " by " + h + ": HEIGHT", v.set(0, 0, 1), h);
                } else {
                    Bits b = new Bits().u(24, 0).u(3, 7).ue(0).ue(1).u(1, 0).ue(w - 1);
                    fault(w + " by " + h, v, b.length(), OUT);
                    Check.due(w + " by " + h + ": HEIGHT is among the ELEMENTS", v.element(v.count(8) - 1, 2), h - 1);
                    Check.missing(w + " by " + h + ": it is not there", () -> v.set(0, 0, 0));
                }
            }
        }
    }

    private static void parameters() {
        Elements e = new Elements().ue("id", 2, 3).ue("SEQUENCE", 1, 3).u("coding", 1, 0).u("pair", 1, 1).ue("zero", 0, 0)
                .ue("N0", 3, 7).ue("N1", 2, 7).u("weighted", 1, 1).u("both", 2, 1, 2).se("STEP", 3, -26, 25)
                .se("other", -2, -26, 25).se("APART", 5, -12, 12).u("edges", 1, 1).u("own", 1, 0).flag("last", 0);
        set("PARAMETERS", 0x68, e);
    }

    /** A HEADER: a SLICE begins at the ends of each range; FAULTS beyond them and where BITS end. */
    private static void header(String what, int lead, Streams before, Elements e) {
        int begun = decoded(before, new byte[] {9}).count(7);
        Check.due(what + ": what is before has no FAULT", decoded(before, new byte[] {9}).count(4), 0);
        for (int i = 0; i < e.size(); i++) {
            for (long x : e.ends(i)) {
                VideoSuite v = decoded(before, e.bits(e.size(), i, x).u(24, 0xffffff).unit(lead));
                Check.due(what + " " + e.name(i) + " " + x + ": SLICES begun", v.count(7), begun + 1);
            }
        }
        beyond(what, lead, before, e);
        cut(what, lead, before, e);
    }

    /** The first ELEMENTS of a HEADER with FRAME of 4 bits. */
    private static Elements lead(int first, int sort, int pars, int frame) {
        return new Elements().any("first", 'e', first).any("sort", 'e', sort).ue("PARAMETERS", pars, 3).tells()
                .u("FRAME", 4, frame).tells();
    }

    private static Elements rules(Elements e) {
        return e.any("step", 's', -3).ue("off", 0, 2).tells().se("A", 2, -6, 6)
                .se("B", -1, -6, 6);
    }

    private static Elements ownLead(int ref) {
        Elements e = new Elements().any("first", 'e', 0).any("sort", 'e', 2).ue("PARAMETERS", 0, 3).tells()
                .u("FRAME", 4, 0, 0).ue("own id", 300, 65535).u("LOW", 4, 9);
        if (ref > 0) {
            e.u("drop", 1, 1).u("long", 1, 0);
        }
        return rules(e);
    }

    private static void ownHeader() {
        Streams s = new Streams().size(2, 1).sets();
        header("OWN", 0x65, s, ownLead(3));
        header("OWN, no REFERENCE", 0x05, s, ownLead(0));
        for (int frame = 1; frame < 16; frame++) {
            Bits b = new Bits().ue(0).ue(2).ue(0).u(4, frame);
            VideoSuite v = decoded(s, b.u(7, 0).plain(0x65));
            fault("OWN of FRAME " + frame + ", BITS end behind it", v, 5, OUT);
            Check.due("FRAME is the last ELEMENT", v.count(8), 4);
        }
    }

    private static Elements lists(Elements e, int isB, int n0, int n1) {
        if (isB == 1) {
            e.u("space", 1, 1);
        }
        e.u("other numbers", 1, 1).tells().ue("N0", n0, 7);
        return isB == 1 ? e.ue("N1", n1, 7) : e;
    }

    private static Elements moves(Elements e, String which) {
        return e.u(which + " moved", 1, 1).tells().ue(which + " op", 0, 3).tells().ue(which + " x", 0, 15)
                .ue(which + " op again", 3, 3).tells();
    }

    private static void headersOfP() {
        Streams s = new Streams().size(2, 1);
        s.refs = 2;
        s.sets().add(s.head(5, 2).raw(1, 2, 3, 4, 5, 6));
        Elements e = lists(lead(0, 0, 0, 1).u("LOW", 4, 2), 0, 1, 0);
        header("P", 0x01, s, rules(moves(e, "list 0")));
        e = lists(lead(0, 0, 0, 1).u("LOW", 4, 2), 0, 0, 0).u("moved", 1, 0).tells();
        header("P, a REFERENCE", 0x21, s, rules(e.u("ops", 1, 0).tells()));
        Streams w = new Streams().size(2, 1);
        w.weighted = 1;
        w.coding = 1;
        w.sets().add(w.head(5, 2).data().type(25).raw(1).type(25).raw(2).unit());
        e = lead(0, 0, 0, 1).u("LOW", 4, 2).u("other numbers", 1, 0).tells().u("moved", 1, 0).tells()
                .ue("a", 5, 7).ue("c", 4, 7).u("luma's", 1, 1).tells().se("w", 9, -128, 127).se("o", -8, -128, 127)
                .u("chroma's", 1, 1).tells().se("w 1", 9, -128, 127).se("o 1", -8, -128, 127)
                .se("w 2", 9, -128, 127).se("o 2", -8, -128, 127).ue("of ARITH", 1, 2);
        header("P with WEIGHTS, ARITH", 0x01, w, rules(e));
    }

    private static void headersOfB() {
        Streams s = new Streams().size(2, 1);
        s.refs = 2;
        s.both = 1;
        s.sets().add(s.head(5, 2).raw(1, 2, 3, 4, 5, 6)).add(s.head(1, 2).at(1, 4).raw(1, 2, 3, 4, 5, 6));
        Elements e = lead(0, 1, 0, 2).u("LOW", 4, 2).u("space", 1, 0).u("other numbers", 1, 0).tells();
        moves(moves(e, "list 0"), "list 1").ue("a", 5, 7).ue("c", 4, 7);
        for (int l = 0; l < 2; l++) {
            e.u("luma's " + l, 1, 1).tells().se("w " + l, 9, -128, 127).se("o " + l, -8, -128, 127);
            e.u("chroma's " + l, 1, 1).tells().se("w 1 " + l, 9, -128, 127).se("o 1 " + l, -8, -128, 127)
                    .se("w 2 " + l, 9, -128, 127).se("o 2 " + l, -8, -128, 127);
        }
        header("B with WEIGHTS", 0x01, s, rules(e));
        Streams t = new Streams().size(2, 1);
        t.refs = 2;
        t.sets().add(t.head(5, 2).raw(1, 2, 3, 4, 5, 6)).add(t.head(1, 2).at(1, 4).raw(1, 2, 3, 4, 5, 6));
        e = lists(lead(0, 1, 0, 2).u("LOW", 4, 2), 1, 4, 5).u("moved", 1, 0).tells().u("moved 1", 1, 0).tells();
        header("B", 0x01, t, rules(e));
        e = lead(0, 1, 0, 2).u("LOW", 4, 2).u("space", 1, 0).u("other numbers", 1, 0).tells().u("moved", 1, 0).tells()
                .u("moved 1", 1, 1).tells().ue("op", 2, 3).tells().ue("x", 1, 3).ue("op again", 3, 3).tells();
        header("B with a LONG move", 0x01, t, rules(e));
    }

    private static void headersByPairs() {
        Streams s = new Streams().size(2, 1);
        s.pair = 1;
        s.sets().add(s.head(5, 2).raw(1, 2, 3, 4, 5, 6));
        Elements e = lead(0, 2, 0, 1).u("LOW", 4, 2).se("d0", 5, -32768, 32767);
        header("I with d0", 0x01, s, rules(e));
        Streams t = new Streams().size(2, 1);
        t.kind = 1;
        t.same = 0;
        t.pair = 1;
        t.sets().add(t.head(5, 2).raw(1, 2, 3, 4, 5, 6));
        e = lead(0, 2, 0, 1).se("d0", 5, -32768, 32767).se("d1", -5, -32768, 32767);
        header("I with d0 and d1", 0x01, t, rules(e));
        Streams u = new Streams().size(2, 1);
        u.kind = 1;
        u.same = 0;
        u.edges = 0;
        u.sets().add(u.head(5, 2).raw(1, 2, 3, 4, 5, 6));
        e = lead(0, 2, 0, 1).se("d0", 5, -32768, 32767).any("step", 's', 1);
        header("I with d0 alone, no rules", 0x01, u, e);
        Streams w = new Streams().size(2, 1);
        w.kind = 2;
        w.pair = 1;
        w.sets().add(w.head(5, 2).raw(1, 2, 3, 4, 5, 6));
        header("I of kind 2", 0x01, w, rules(lead(0, 2, 0, 1)));
    }

    private static void opsOfHeaders() {
        Streams s = new Streams().size(2, 1);
        s.refs = 3;
        s.sets().add(s.head(5, 2).raw(1, 2, 3, 4, 5, 6));
        Elements e = lead(0, 2, 0, 1).u("LOW", 4, 2).u("ops", 1, 1).tells();
        e.ue("op 4", 4, 6).tells().ue("op 4's x", 2, 4).ue("op 1", 1, 6).tells().ue("op 1's x", 7, 65535);
        e.ue("op 2", 2, 6).tells().ue("op 2's x", 1, 3).ue("op 3", 3, 6).tells().ue("op 3's x", 2, 65535)
                .ue("op 3's y", 1, 3).ue("op 5", 5, 6).tells().ue("op 6", 6, 6).tells().ue("op 6's x", 0, 3)
                .ue("op 0", 0, 6).tells();
        header("ops", 0x61, s, rules(e));
        for (int n = 11; n <= 13; n++) {
            Elements f = lead(0, 2, 0, 1).u("LOW", 4, 2).u("ops", 1, 1).tells();
            for (int i = 0; i < n; i++) {
                f.ue("op", 5, 6);
            }
            VideoSuite v = decoded(s, rules(f.ue("op 0", 0, 6)).bits().u(9, 511).unit(0x21));
            Check.due(n + " ops", v.count(7), n <= 12 ? 2 : 1);
            if (n == 13) {
                fault("13 ops", v, f.place(6 + 12), OUT);
                Check.due("the 13th is among the ELEMENTS", v.count(8), 6 + 13);
            }
        }
        for (int n = 7; n <= 9; n++) {
            Elements f = lead(0, 0, 0, 1).u("LOW", 4, 2).u("other numbers", 1, 1).ue("N0", 7, 7).u("moved", 1, 1).tells();
            for (int i = 0; i < n; i++) {
                f.ue("op", 0, 3).ue("x", i == 0 ? 0 : 15, 15);
            }
            VideoSuite v = decoded(s, rules(f.ue("op", 3, 3)).bits().u(9, 511).unit(0x01));
            Check.due(n + " moves", v.count(7), n <= 8 ? 2 : 1);
            if (n == 9) {
                fault("9 moves", v, f.place(8 + 16), OUT);
                Check.due("the 9th is among the ELEMENTS", v.count(8), 8 + 17);
            }
        }
    }

    /** first is looked at behind PARAMETERS, at its own place. */
    private static void firsts() {
        Streams s = new Streams().size(3, 2).sets();
        long[] beyond = {6, 7, 31, 32, 65535, (1L << 31) - 2, (1L << 31) - 1, 1L << 31, (1L << 32) - 2};
        for (long x : beyond) {
            VideoSuite v = decoded(s, new Bits().ue(x).ue(2).ue(0).u(30, 1).unit(0x65));
            fault("first " + x, v, 0, OUT);
            Check.due("first " + x + ": three ELEMENTS", v.count(8), 3);
            Check.due("first " + x + ": its lowest 32 bits", v.element(0, 2), (int) x);
            Check.due("first " + x + ": its bits", v.element(0, 1), 2 * (63 - Long.numberOfLeadingZeros(x + 1)) + 1);
        }
        VideoSuite v = decoded(s, s.head(5, 2).from(5).raw(1, 2, 3));
        Check.due("first 5 of 6", v.count(4), 0);
        Check.due("first 5 of 6", v.block(5, 0), 2);
        fault("first 6 and no such PARAMETERS", decoded(s, new Bits().ue(6).ue(2).ue(1).u(30, 1).unit(0x65)), 8, NO_SET);
        fault("first 6 and sort 3", decoded(s, new Bits().ue(6).ue(3).ue(0).u(30, 1).unit(0x65)), 5, OUT);
    }

    private static void sorts() {
        Streams s = new Streams().sets().add(new Streams().head(5, 2).raw(1, 2, 3));
        for (int sort = 0; sort < 11; sort++) {
            for (int type = 1; type <= 5; type += 4) {
                Streams.Head h = s.head(type, 2).at(type == 5 ? 0 : 1, 2);
                Bits b = new Bits().ue(0).ue(sort).ue(0).u(4, h.frame);
                boolean isRight = sort < 10 && sort % 5 < 3 && (type == 1 || sort % 5 == 2);
                VideoSuite v = decoded(s, b.u(60, -1).unit(type));
                Check.due("TYPE " + type + " sort " + sort, v.count(7), isRight && sort % 5 == 2 ? 2 : v.count(7));
                if (!isRight) {
                    fault("TYPE " + type + " sort " + sort, v, 1, OUT);
                    Check.due("TYPE " + type + " sort " + sort + ": ELEMENTS", v.count(8), sort > 9 ? 1 : 2);
                }
            }
        }
        for (int sort = 0; sort < 10; sort += 5) {
            Streams.Head h = new Streams.Head(s, 1, sort % 5).at(1, 2);
            String bits = new Bits().ue(0).ue(sort).ue(0).u(4, 1).u(4, 2).u(2, 0).u(1, 0).se(0).ue(0).se(0).se(0).ue(1)
                    .toText();
            VideoSuite v = decoded(s, new Bits().put(bits).unit(h.lead()));
            Check.due("sort " + sort + " is P", v.slice(1), 0);
            Check.due("sort " + sort + ": FAULTS", v.count(4), 0);
        }
        VideoSuite v = decoded(s, new Bits().ue(0).ue(7).ue(0).u(4, 0).ue(1).u(4, 0).u(2, 0).se(0).ue(0).se(0).se(0)
                .ue(3).ue(0).se(0).u(1, 1).unit(0x25));
        Check.due("sort 7 is I", v.slice(1), 2);
        Check.due("sort 7: FAULTS", v.count(4), 0);
    }

    private static void steps() {
        int[] sets = {0, 26, 51};
        for (int set : sets) {
            Streams s = new Streams();
            s.step = set;
            s.sets();
            int[] right = {0, 1, 51};
            for (int step : right) {
                Streams.Head h = s.head(5, 2);
                h.more = step - set;
                VideoSuite v = decoded(s, h.raw(1, 2, 3));
                Check.due("STEP " + step + " of the SLICE", v.slice(12), step);
            }
            long[] wrong = {-1, 52, -(1L << 31) + 1 + set, (1L << 31) - 1 + set};
            for (long step : wrong) {
                Bits b = new Bits().ue(0).ue(2).ue(0).u(4, 0).ue(0).u(4, 0).u(2, 0);
                int place = b.length();
                VideoSuite v = decoded(s, b.se(step - set).u(20, -1).unit(0x65));
                fault("STEP " + step + " of the SLICE", v, place, OUT);
                Check.due("it is among the ELEMENTS", v.count(8), 9);
                Check.due("its value", v.element(8, 2), (int) (step - set));
            }
        }
    }

    private static void whichSets() {
        Streams none = new Streams();
        none.add(none.sequence(0));
        byte[] own = none.head(5, 2).raw(1, 2, 3);
        fault("no PARAMETERS", decoded(none, own), 4, NO_SET);
        Streams alone = new Streams();
        alone.add(alone.parameters(0, 3));
        fault("no SEQUENCE", decoded(alone, own), 4, NO_SET);
        fault("no SEQUENCE in TYPE 1", decoded(alone, alone.head(1, 2).raw(1, 2, 3)), 4, NO_SET);
        Streams s = new Streams().sets();
        fault("nothing ACTIVE", decoded(s, s.head(1, 2).raw(1, 2, 3)), 4, NO_SET);
        // of TYPE 1 ACTIVE counts, of TYPE 5 the SEQUENCE that is there now
        s.add(s.head(5, 2).raw(1, 2, 3));
        s.size(2, 1).add(s.sequence(0));
        fault("ACTIVE has one BLOCK", decoded(s, s.head(1, 2).at(1, 2).from(1).raw(1, 2, 3)), 0, OUT);
        VideoSuite v = decoded(s, s.head(5, 2).from(1).raw(1, 2, 3));
        Check.due("the SEQUENCE has two", v.count(4), 0);
        Check.due("the SEQUENCE has two", v.block(1, 0), 2);
        Streams other = new Streams().sets();
        other.add(other.sequence(1)).add(other.parameters(1, 1)).add(other.head(5, 2).raw(1, 2, 3));
        Streams.Head h = other.head(1, 2).at(1, 2);
        h.pars = 1;
        fault("ACTIVE is of another id", decoded(other, h.raw(1, 2, 3)), 4, NO_SET);
        h = other.head(5, 2);
        h.pars = 1;
        Check.due("an OWN one may be of another id", decoded(other, h.raw(1, 2, 3)).count(4), 0);
    }

    /** FRAME and LOW have 4 to 16 bits, of TYPE 1 those of ACTIVE. */
    private static void bitsOfFrame() {
        for (int bits = 4; bits <= 16; bits += 6) {
            Streams s = new Streams();
            s.frameBits = bits;
            s.lowBits = 20 - bits;
            s.sets().add(s.head(5, 2).raw(1, 2, 3));
            VideoSuite v = decoded(s, s.head(1, 2).at(1, 1).raw(1, 2, 3));
            Check.due("FRAME has its bits", v.element(3, 1), bits);
            Check.due("LOW has its bits", v.element(4, 1), 20 - bits);
            // another SEQUENCE of that id counts for OWN ones alone
            int was = s.frameBits;
            s.frameBits = 5;
            s.add(s.sequence(0));
            s.frameBits = was;
            v = decoded(s, s.head(1, 2).at(1, 1).raw(1, 2, 3));
            Check.due("FRAME has the bits of ACTIVE", v.element(3, 1), bits);
            Check.due("FRAME has the bits of ACTIVE", v.count(4), 0);
        }
    }

    /** 31 zeros are a number still; the 32nd is OUT as soon as it is read. */
    private static void endlessNumbers() {
        Streams s = new Streams().sets();
        fault("32 zeros, BITS end behind them", decoded(s, new Bits().u(32, 0).plain(0x65)), 0, OUT);
        fault("31 zeros, BITS end", decoded(s, new Bits().u(24, 0).plain(0x65)), 0, END);
        fault("31 zeros, 1, BITS end", decoded(s, new Bits().u(31, 0).u(1, 1).plain(0x65)), 0, END);
        fault("31 zeros, 1, 30 bits of 31", decoded(s, new Bits().u(31, 0).u(1, 1).u(24, -1).plain(0x65)), 0, END);
        VideoSuite v = decoded(s, new Bits().u(31, 0).u(1, 1).u(31, 0).ue(2).u(2, 0).plain(0x65));
        Check.due("31 zeros, 1, 31 bits", v.element(0, 2), Integer.MAX_VALUE);
        Check.due("31 zeros, 1, 31 bits", v.element(0, 1), 63);
        v = decoded(s, new Bits().ue(2).u(8, 0).plain(0x68));
        Check.due("one FAULT ends the UNIT", v.count(4), 1);
    }

    private static void lastParameters() {
        Streams s = new Streams();
        for (int id = 0; id < 4; id++) {
            s.add(s.sequence(id)).add(s.parameters(id, id));
        }
        for (int id = 0; id < 4; id++) {
            Streams.Head h = s.head(5, 2);
            h.pars = id;
            VideoSuite v = decoded(s, h.raw(1, 2, 3));
            Check.due("PARAMETERS " + id, v.count(4), 0);
            Check.due("PARAMETERS " + id, v.slice(2), id);
        }
    }

    /** WEIGHTS for each of N, 8 at most. */
    private static void eightWeights() {
        for (int n = 1; n <= 8; n++) {
            Streams s = new Streams();
            s.weighted = 1;
            s.refs = 2;
            s.sets().add(s.head(5, 2).raw(100, 100, 100));
            Bits b = new Bits().ue(0).ue(0).ue(0).u(4, 1).u(4, 2).u(1, 1).ue(n - 1).u(1, 1);
            // the same one at each place
            for (int i = 0; i < n; i++) {
                b.ue(0).ue(i == 0 ? 0 : 15);
            }
            b.ue(3).ue(2).ue(3);
            for (int i = 0; i < n; i++) {
                b.u(1, 1).se(4).se(i + 1).u(1, 1).se(8).se(-i).se(8).se(2 * i);
            }
            b.u(1, 0).se(0).ue(1);
            // P, 16 by 16 by the last one, VECTOR 0 0
            b.ue(0).ue(0);
            (n == 2 ? b.u(1, 0) : n > 2 ? b.ue(n - 1) : b).se(0).se(0).ue(0);
            VideoSuite v = decoded(s, b.unit(0x21));
            Check.due("N " + n + ": FAULTS", v.count(4), 0);
            v.flush();
            Check.due("P14 the weight of the last of " + n, v.sample(1, 0, 5, 5), 100 + n);
            Check.due("P14 of chroma", v.sample(1, 1, 5, 5), 100 - (n - 1));
            Check.due("P14 of the other one", v.sample(1, 2, 5, 5), 100 + 2 * (n - 1));
        }
    }

    /** B: those of list 1 stand apart from those of list 0; what isn't told is 2^a, 2^c, 0. */
    private static void weightsOfBoth() {
        for (int list = 0; list < 2; list++) {
            for (int r = 0; r < 8; r++) {
                Streams s = new Streams();
                s.both = 1;
                s.refs = 2;
                s.lowBits = 8;
                s.sets().add(s.head(5, 2).raw(100, 100, 100));
                Bits b = new Bits().ue(0).ue(1).ue(0).u(4, 1).u(8, 2).u(1, 1).u(1, 1).ue(7).ue(7);
                for (int l = 0; l < 2; l++) {
                    b.u(1, 1);
                    for (int i = 0; i < 8; i++) {
                        b.ue(0).ue(i == 0 ? 0 : 15);
                    }
                    b.ue(3);
                }
                b.ue(2).ue(3);
                for (int i = 0; i < 16; i++) {
                    // every other one is told
                    b.u(1, i % 2);
                    if (i % 2 == 1) {
                        b.se(4).se(i + 1);
                    }
                    b.u(1, i / 2 % 2);
                    if (i / 2 % 2 == 1) {
                        b.se(8).se(-i).se(8).se(2 * i);
                    }
                }
                b.se(0).ue(1).ue(0).ue(1 + list).ue(r).se(0).se(0).ue(0);
                VideoSuite v = decoded(s, b.unit(0x01));
                Check.due("FAULTS", v.count(4), 0);
                v.flush();
                int i = 8 * list + r;
                Check.due("P14 luma by entry " + i, v.sample(1, 0, 5, 5), i % 2 == 1 ? 101 + i : 100);
                Check.due("P14 chroma by entry " + i, v.sample(1, 1, 5, 5), i / 2 % 2 == 1 ? 100 - i : 100);
                Check.due("P14 the other one by entry " + i, v.sample(1, 2, 5, 5), i / 2 % 2 == 1 ? 100 + 2 * i : 100);
            }
        }
    }

    private static void numbersOfP() {
        Streams s = new Streams();
        s.n0 = 2;
        s.n1 = 5;
        s.sets().add(s.head(5, 2).raw(1, 2, 3));
        VideoSuite v = decoded(s, s.head(1, 0).at(1, 2).skipped(1));
        Check.due("P17 N0 as in the PARAMETERS", v.slice(9), 2);
        Check.due("P17 P has no N1", v.slice(10), 0);
        v = decoded(s, s.head(1, 0).at(1, 2).n(7).skipped(1));
        Check.due("P17 N0 as told", v.slice(9), 7);
        Check.due("P17 P has no N1", v.slice(10), 0);
        v = decoded(s, s.head(1, 2).at(1, 2).raw(1, 2, 3));
        Check.due("P17 I has no N0", v.slice(9), 0);
        Check.due("P17 I has no N1", v.slice(10), 0);
        v = decoded(s, s.head(1, 1).at(1, 2).ref(0).raw(1, 2, 3));
        Check.due("P17 B has N1", v.slice(10), 5);
    }
}
