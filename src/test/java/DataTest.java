/** Sections 3 and 4: DATA by both codings: runs, BLOCKS one by one, types, modes, references, VECTORS, patterns. */
public final class DataTest {
    private static final int END = 1;
    private static final int OUT = 2;
    private static final int WRONG = 4;
    /** TABLES 0, ARITH 1. */
    private static int coding;

    public static void main(String[] args) {
        for (coding = 0; coding < 2; coding++) {
            types();
            blocksThatMayNotCome();
            rawSamples();
            rawBits();
            sixteens();
            fours();
            modesThatMayNotBe();
            modesByCorners();
            modesBesideSixteen();
            elementsTold();
            neighboursOfOtherSlices();
            neighboursByLists();
            coloursModes();
            subs();
            references();
            referencesInTurn();
            vectors();
            patterns();
            stepsOfBlocks();
            stepsBehindOthers();
        }
        runs();
        withoutStop();
        quarteredByNone();
        beginOfArith();
        endOfArith();
        statesAnew();
        manyDecisions();
        allElements();
        manyEnds();
        behindThirtyTwo();
        Check.end();
    }

    private static Streams sets(int wide, int high, int refs) {
        Streams s = new Streams().size(wide, high);
        s.coding = coding;
        s.refs = refs;
        s.lowBits = 8;
        return s;
    }

    /** An OWN picture of RAW BLOCKS, each of another luma. */
    private static Streams own(Streams s) {
        Data d = s.sets().head(5, 2).data();
        for (int mb = 0; mb < s.width * s.height; mb++) {
            d.type(25).raw(40 + 10 * mb, 60, 90);
        }
        return s.add(d.unit());
    }

    /** An OWN picture that is 128 all over: less to feed than RAW ones. */
    private static Streams grey(Streams s) {
        Data d = s.sets().head(5, 2).data();
        for (int mb = 0; mb < s.width * s.height; mb++) {
            d.type(3).colours(0).more(0).token("1");
        }
        return s.add(d.unit());
    }

    private static VideoSuite decoded(Streams s, byte[] unit) {
        Streams t = new Streams();
        t.bytes.writeBytes(s.bytes.toByteArray());
        VideoSuite v = t.add(unit).object();
        v.decode(400);
        return v;
    }

    private static String by(String what) {
        return (coding == 0 ? "TABLES, " : "ARITH, ") + what;
    }

    private static VideoSuite whole(String what, Streams s, Data d) {
        VideoSuite v = decoded(s, d.unit());
        Check.due(by(what) + ": FAULTS", v.count(4), 0);
        return v;
    }

    /** A FAULT that is met with the latest ELEMENT of these. */
    private static VideoSuite fault(String what, Streams s, Data d, int kind) {
        int place = d.mark();
        return fault(what, decoded(s, d.unit()), place, kind);
    }

    private static VideoSuite fault(String what, VideoSuite v, int place, int kind) {
        Check.due(by(what) + ": FAULTS", v.count(4), 1);
        Check.answers(by(what) + ": its place", place, () -> v.fault(0, 1));
        Check.answers(by(what) + ": its kind", kind, () -> v.fault(0, 2));
        return v;
    }

    private static void types() {
        Streams s = own(sets(2, 1, 2));
        s.add(s.head(1, 2).at(1, 8).data().type(25).raw(1).type(25).raw(2).unit());
        int[] most = {30, 48, 25};
        for (int sort = 0; sort < 3; sort++) {
            Data d = s.head(1, sort).at(2, 4).data().type(most[sort]).raw(7);
            VideoSuite v = whole("RAW of sort " + sort, s, d);
            Check.due("P18 RAW", v.block(0, 0), 2);
            Check.due("P18 type as read", v.block(0, 1), most[sort]);
            v = fault("type beyond RAW", s, s.head(1, sort).at(2, 4).data().type(most[sort] + 1), OUT);
            Check.due("P18 it is not there", v.block(0, 0), -1);
            int bias = most[sort] - 25;
            v = whole("FOUR of sort " + sort, s, four(s.head(1, sort).at(2, 4).data().type(bias)));
            Check.due("P18 FOUR", v.block(0, 0), 0);
            Check.due("P18 type as read", v.block(0, 1), bias);
            v = whole("SIXTEEN", s, s.head(1, sort).at(2, 4).data().type(bias + 3).colours(0).more(0).token("1"));
            Check.due("P18 SIXTEEN", v.block(0, 0), 1);
        }
    }

    /** FOUR with the GUESS everywhere, behind its type. */
    private static Data four(Data d) {
        for (int b = 0; b < 16; b++) {
            d.given();
        }
        return d.colours(0).pattern(3);
    }

    private static void blocksThatMayNotCome() {
        Streams s = sets(2, 2, 1);
        s.sets();
        Data d = s.head(5, 2).data();
        for (int i = 0; i < 4; i++) {
            d.type(3).colours(0).more(0).token("1");
        }
        VideoSuite v = behind("one behind the last", s, d);
        Check.due("P17 BLOCKS decoded", v.slice(16), 4);
        s.add(s.head(5, 2).from(1).data().type(25).raw(9).unit());
        d = s.head(5, 2).from(2).data().type(3).colours(0).more(0).token("1").type(3).colours(0).more(0).token("1");
        v = behind("one behind the last in another SLICE", s, d);
        d = s.head(5, 2).from(1).data();
        int place = d.place();
        // by TABLES the last ELEMENT is the HEADER's B
        v = fault("the first is there already", decoded(s, d.type(25).raw(1).unit()), coding == 1 ? place : place - 1, WRONG);
        Check.due("P17 BLOCKS decoded", v.slice(16), 0);
        Check.due("P18 it stays", v.block(1, 0), 2);
        s.add(s.head(5, 2).from(3).data().type(25).raw(9).unit());
        v = behind("the next is there already", s, s.head(5, 2).from(2).data().type(3).colours(0).more(0).token("1"));
        Check.due("P17 BLOCKS decoded", v.slice(16), 1);
    }

    /** One BLOCK more than may come: 4, before anything of it is read. */
    private static VideoSuite behind(String what, Streams s, Data d) {
        int place = d.mark();
        if (coding == 1) {
            d.end(false);
            place = d.mark();
        }
        return fault(what, decoded(s, (coding == 0 ? d.type(25) : d.ue(1, 25)).unit()), place, WRONG);
    }

    private static void rawSamples() {
        int[] samples = new int[384];
        for (int i = 0; i < 384; i++) {
            samples[i] = i * 37 & 255;
        }
        Streams s = sets(1, 1, 1).sets();
        VideoSuite v = whole("RAW", s, s.head(5, 2).data().type(25).raw(samples));
        v.flush();
        for (int i = 0; i < 384; i += 5) {
            int p = i < 256 ? 0 : i < 320 ? 1 : 2;
            int k = p == 0 ? i : (i - 256) % 64;
            Check.due(by("RAW sample " + i), v.sample(0, p, k % (p == 0 ? 16 : 8), k / (p == 0 ? 16 : 8)), samples[i]);
        }
        byte[] whole = s.head(5, 2).data().type(25).raw(samples).unit();
        VideoSuite w = decoded(s, java.util.Arrays.copyOf(whole, whole.length - 9));
        Check.due(by("BITS end in RAW"), w.fault(0, 2), END);
        Check.due(by("the BLOCK is not there"), w.block(0, 0), -1);
    }

    /** Bits 0 up to a whole byte before RAW's samples, by HEADERS of all lengths. */
    private static void rawBits() {
        for (int id = 0; id < 255; id = 2 * id + 1) {
            for (int step = 0; step < 2; step++) {
                Streams s = sets(1, 1, 1).sets();
                s.edges = 0;
                s.add(s.parameters(0, 0));
                Streams.Head h = s.head(5, 2);
                h.ownId = id;
                h.more = step;
                int begin = h.data().type(25).leave().length();
                int gap = -begin & 7;
                VideoSuite v = whole("RAW behind " + gap + " bits 0", s, h.data().type(25).raw(5));
                Check.due(by("RAW behind " + gap + " bits 0"), v.block(0, 0), 2);
                for (int wrong = 0; wrong < gap; wrong++) {
                    Data d = h.data().type(25).leave().bits(wrong, 0).bits(1, 1).align(0).samples(5);
                    v = fault("RAW behind a bit 1", decoded(s, d.unit()), coding == 1 ? begin + gap : begin, OUT);
                    if (coding == 0) {
                        Check.due("P25 the bits are one ELEMENT", v.element(v.count(8) - 1, 1), gap);
                    }
                }
            }
        }
    }

    private static void sixteens() {
        for (int type = 1; type <= 24; type++) {
            int t = type - 1;
            Streams s = sets(2, 2, 1).sets();
            Data d = s.head(5, 2).data().type(25).raw(1).type(25).raw(2).type(25).raw(3).type(type).colours(3).more(1);
            // TOTALS of the left and upper BLOCK are 16: TOKEN by table 3
            d.token(Codes.token(3, 0, 0));
            for (int b = 0; t > 11 && b < 16; b++) {
                boolean left = b % 2 == 0 && b / 4 % 2 == 0;
                boolean above = b / 2 % 2 == 0 && b < 8;
                int total = left && above ? 16 : left || above ? 8 : 0;
                d.token(Codes.token(total < 2 ? 0 : 3, 0, 0));
            }
            colours(d, t / 4 % 3);
            VideoSuite v = whole("SIXTEEN " + type, s, d);
            int[] due = {1, type, 27, t > 11 ? 15 : 0, t / 4 % 3, 3, 0};
            for (int what = 0; what < 7; what++) {
                Check.due(by("P18 SIXTEEN " + type + " what " + what), v.block(3, what), due[what]);
            }
            for (int b = 0; b < 16; b++) {
                Check.due(by("P18 SIXTEEN " + type + ": mode"), v.block(3, 8 + b), t % 4);
            }
        }
    }

    /** Chroma without LEVELS in the last BLOCK of four whose others are RAW. */
    private static void colours(Data d, int pattern) {
        if (pattern > 0) {
            d.token(Codes.token(4, 0, 0)).token(Codes.token(4, 0, 0));
        }
        for (int i = 0; pattern == 2 && i < 8; i++) {
            d.token(Codes.token(i % 4 == 3 ? 0 : 3, 0, 0));
        }
    }

    /** Modes told as the GUESS, and by a rest below it or not. */
    private static void fours() {
        Streams s = sets(2, 1, 1).sets();
        // the first BLOCK: piece 0 has mode 2 (nothing is THERE), others as they may be
        int[] modes = {2, 8, 7, 0, 1, 1, 8, 6, 3, 0, 7, 4, 5, 2, 1, 3};
        Data d = s.head(5, 2).data().type(0);
        int[] now = new int[16];
        for (int b = 0; b < 16; b++) {
            mode(d, modes[b], guess(now, null, b));
            now[b] = modes[b];
        }
        d.colours(0).pattern(3).type(0);
        int[] next = {1, 8, 2, 2, 1, 8, 0, 7, 8, 3, 4, 5, 6, 0, 1, 2};
        int[] then = new int[16];
        for (int b = 0; b < 16; b++) {
            mode(d, next[b], guess(then, now, b));
            then[b] = next[b];
        }
        VideoSuite v = whole("FOUR", s, d.colours(1).pattern(3));
        for (int b = 0; b < 16; b++) {
            Check.due(by("P18 mode of " + b), v.block(0, 8 + b), modes[b]);
            Check.due(by("P18 mode of the next " + b), v.block(1, 8 + b), next[b]);
        }
        // behind SIXTEEN of mode 1 and RAW a mode counts as 2
        s = sets(2, 2, 1).sets();
        d = s.head(5, 2).data().type(25).raw(1).type(2).colours(0).more(0).token(Codes.token(3, 0, 0)).type(25).raw(1);
        d.type(0);
        int[] last = new int[16];
        for (int b = 0; b < 16; b++) {
            int g = guess(last, new int[] {2, 2, 2, 2, 2, 2, 2, 2, 2, 2, 2, 2, 2, 2, 2, 2}, b);
            boolean above = b < 2 || b == 4 || b == 5;
            g = above ? Math.min(2, b % 2 == 1 || b == 4 ? last[b == 4 ? 1 : b - 1] : 2) : g;
            mode(d, 8 - b % 9, g);
            last[b] = 8 - b % 9;
        }
        v = whole("FOUR behind others", s, d.colours(0).pattern(3));
        for (int b = 0; b < 16; b++) {
            Check.due(by("P18 mode of " + b), v.block(3, 8 + b), 8 - b % 9);
        }
    }

    private static void mode(Data d, int mode, int guess) {
        if (mode == guess) {
            d.given();
        } else {
            d.rest(mode < guess ? mode : mode - 1);
        }
    }

    private static int number(int x, int y) {
        return y / 8 * 8 + x / 8 * 4 + y / 4 % 2 * 2 + x / 4 % 2;
    }

    /** The GUESS of piece b: own modes, and those of the BLOCK at the left; nothing is THERE above. */
    private static int guess(int[] own, int[] left, int b) {
        int x = b / 4 % 2 * 8 + b % 2 * 4;
        int y = b / 8 * 8 + b / 2 % 2 * 4;
        if (y == 0 || x == 0 && left == null) {
            return 2;
        }
        int a = x > 0 ? own[number(x - 4, y)] : left[number(12, y)];
        return Math.min(a, own[number(x, y - 4)]);
    }

    private static void modesThatMayNotBe() {
        Streams s = sets(2, 2, 1).sets();
        // for pieces 0 .. 3 of a BLOCK without NEIGHBOURS: which modes may be
        String[] may = {"2", "128", "0237", "012345678"};
        for (int b = 0; b < 4; b++) {
            for (int mode = 0; mode < 9; mode++) {
                // those before have mode 2, so the GUESS is 2
                Data d = s.head(5, 2).data().type(0);
                for (int k = 0; k < b; k++) {
                    mode(d, 2, 2);
                }
                mode(d, mode, 2);
                if (may[b].indexOf('0' + mode) < 0) {
                    fault("mode " + mode + " of piece " + b, s, d, WRONG);
                } else {
                    for (int k = b + 1; k < 16; k++) {
                        // the GUESS is the lesser of modes that are 2 or this one
                        mode(d, 2, after(b, mode, k));
                    }
                    whole("mode " + mode + " of piece " + b, s, d.colours(0).pattern(3));
                }
            }
        }
        // BLOCKS with a left one, an upper one, both
        String[] sixteen = {"2", "12", "02", "0123"};
        for (int mb = 0; mb < 4; mb++) {
            for (int mode = 0; mode < 4; mode++) {
                Data d = s.head(5, 2).data();
                for (int k = 0; k < mb; k++) {
                    d.type(25).raw(50);
                }
                d.type(1 + mode);
                if (sixteen[mb].indexOf('0' + mode) < 0) {
                    fault("SIXTEEN of mode " + mode + " in BLOCK " + mb, s, d, WRONG);
                    continue;
                }
                d.colours(mb == 0 ? 0 : mb);
                whole("SIXTEEN of mode " + mode + " in BLOCK " + mb, s, d.more(0)
                        .token(Codes.token(mb == 0 ? 0 : 3, 0, 0)));
            }
        }
    }

    /** The GUESS of piece k where piece b has a mode and all others 2; nothing is THERE around. */
    private static int after(int b, int mode, int k) {
        int[] own = new int[16];
        for (int i = 0; i < 16; i++) {
            own[i] = i == b ? mode : 2;
        }
        return guess(own, null, k);
    }

    /** Which modes of FOUR may be, by what is THERE: at the left, above, above and left. */
    private static void modesByCorners() {
        boolean[][] cases = {{false, true, false}, {true, false, false}, {true, true, false}, {true, true, true}};
        for (boolean[] c : cases) {
            boolean isTwoRows = c[1];
            Streams s = sets(c[0] ? 2 : 1, isTwoRows ? 2 : 1, 1).sets();
            int first = c[0] && c[1] && !c[2] ? 1 : 0;
            int last = s.width * s.height - 1;
            for (int i = 0; i < 144; i++) {
                int b = i / 9;
                int mode = i % 9;
                int x = b / 4 % 2 * 8 + b % 2 * 4;
                int y = b / 8 * 8 + b / 2 % 2 * 4;
                boolean left = x > 0 || c[0];
                boolean above = y > 0 || c[1];
                boolean corner = x > 0 ? above : y > 0 ? left : c[2];
                boolean may = mode == 2 || (mode == 1 || mode == 8 ? left : mode < 4 || mode == 7 ? above : left && above && corner);
                Data d = s.head(5, 2).from(first).data();
                for (int mb = first; mb < last; mb++) {
                    d.type(3).colours(0).more(0).token("1");
                }
                d.type(0);
                for (int k = 0; k < b; k++) {
                    d.given();
                }
                mode(d, mode, 2);
                String what = "mode " + mode + " of " + b + ", left " + c[0] + ", above " + c[1] + ", corner " + c[2];
                if (!may) {
                    fault(what, s, d, WRONG);
                    continue;
                }
                for (int k = b + 1; k < 16; k++) {
                    mode(d, 2, besides(b, mode, k, c[0], c[1]));
                }
                VideoSuite v = whole(what, s, d.colours(0).pattern(3));
                Check.due(by(what), v.block(last, 8 + b), mode);
            }
        }
    }

    /** The GUESS of piece k, where all are 2 but one; what is THERE of other BLOCKS counts as 2. */
    private static int besides(int one, int mode, int k, boolean isLeft, boolean isAbove) {
        int x = k / 4 % 2 * 8 + k % 2 * 4;
        int y = k / 8 * 8 + k / 2 % 2 * 4;
        if (x == 0 && !isLeft || y == 0 && !isAbove) {
            return 2;
        }
        int left = x > 0 && number(x - 4, y) == one ? mode : 2;
        int above = y > 0 && number(x, y - 4) == one ? mode : 2;
        return Math.min(left, above);
    }

    /** Of a BLOCK that is SIXTEEN the mode counts as 2, whatever it is. */
    private static void modesBesideSixteen() {
        Streams s = sets(2, 2, 1).sets();
        Data d = s.head(5, 2).data().type(3).colours(0).more(0).token("1").type(0);
        for (int b = 0; b < 16; b++) {
            // mode 8 all over: the GUESS is 2 but where both are THERE
            boolean isTop = b == 0 || b == 1 || b == 4 || b == 5;
            boolean isSide = b == 2 || b == 8 || b == 10;
            mode(d, 8, isTop || isSide ? 2 : 8);
        }
        d.colours(0).pattern(3).type(1).colours(0).more(0).token("1").type(0);
        for (int b = 0; b < 16; b++) {
            d.given();
        }
        VideoSuite v = whole("FOUR between FOUR and SIXTEEN", s, d.colours(0).pattern(3));
        Check.due(by("P18 the mode of SIXTEEN"), v.block(2, 8), 0);
        for (int b = 0; b < 16; b++) {
            // 2 at the left is the lesser one everywhere
            Check.due(by("P18 mode of " + b), v.block(3, 8 + b), 2);
        }
    }

    /** ARITH: the ELEMENTS of the HEADER alone; TABLES: those of DATA, too. */
    private static void elementsTold() {
        Streams s = sets(1, 1, 1).sets();
        VideoSuite v = whole("ELEMENTS", s, s.head(5, 2).data().type(3).colours(0).more(0).token("1"));
        // first, sort, PARAMETERS, FRAME, own id, LOW, drop, long, step, off, A, B; type, colours' mode, more, TOKEN
        Check.due(by("P41 ELEMENTS"), v.count(8), coding == 1 ? 12 : 16);
        Check.answers(by("P25 the last of the HEADER"), 0, () -> v.element(11, 2));
        if (coding == 1) {
            Check.missing(by("P25 none of DATA"), () -> v.element(12, 2));
        } else {
            Check.answers(by("P25 type"), 3, () -> v.element(12, 2));
        }
        VideoSuite w = whole("ELEMENTS of RAW", s, s.head(5, 2).data().type(25).raw(9));
        Check.due(by("P41 ELEMENTS of RAW"), w.count(8), coding == 1 ? 12 : 12 + 1 + 384 + (w.element(13, 1) != 8 ? 1 : 0));
    }

    private static void neighboursOfOtherSlices() {
        Streams s = sets(2, 2, 1).sets();
        s.add(s.head(5, 2).data().type(25).raw(50).unit());
        fault("the left one is of another SLICE", s, s.head(5, 2).from(1).data().type(2), WRONG);
        fault("colours' mode", s, s.head(5, 2).from(1).data().type(3).colours(1), WRONG);
        s.add(s.head(5, 2).from(1).data().type(25).raw(60).unit());
        fault("the upper one is of another SLICE", s, s.head(5, 2).from(2).data().type(1), WRONG);
        Data d = s.head(5, 2).from(2).data().type(3).colours(0).more(0).token("1").type(2).colours(1).more(0).token("1");
        VideoSuite v = whole("the left one is of this SLICE", s, d);
        Check.due(by("P18 the third SLICE"), v.block(3, 6), 2);
        d = s.head(5, 2).from(2).data().type(3).colours(0).more(0).token("1").type(1);
        fault("the upper one is not", s, d, WRONG);
    }

    /** own 1: BLOCKS by lists are no sides of those I; own 0: they are. */
    private static void neighboursByLists() {
        for (int own = 0; own < 2; own++) {
            Streams s = sets(2, 2, 1);
            s.own = own;
            own(s);
            Data d = s.head(1, 0).at(1, 2).data().skipped(1).type(5 + 2);
            if (own == 1) {
                fault("own 1, SKIPPED at the left", s, d, WRONG);
            } else {
                whole("own 0, SKIPPED at the left", s, d.colours(1).more(0).token("1"));
            }
            // the upper and the left one are I, the one between them is not
            d = s.head(1, 0).at(1, 2).data().skipped(1).type(30).raw(9).type(30).raw(9).type(5 + 4);
            if (own == 1) {
                fault("own 1, SKIPPED above and left", s, d, WRONG);
            } else {
                whole("own 0, SKIPPED above and left", s, d.colours(3).more(0).token(Codes.token(3, 0, 0)));
            }
            // the upper one has mode 1 all over, the left one is SKIPPED
            d = s.head(1, 0).at(1, 2).data().type(30).raw(9).type(5);
            for (int b = 0; b < 16; b++) {
                mode(d, 1, b < 2 || b == 4 || b == 5 ? 2 : 1);
            }
            d.colours(0).pattern(3).skipped(1);
            VideoSuite v = whole("own " + own + ", the GUESS beside SKIPPED", s, four(d.type(5)));
            for (int b = 0; b < 16; b++) {
                boolean isLeft = b % 2 == 0 && b / 4 % 2 == 0;
                Check.due(by("P18 own " + own + ", mode of " + b), v.block(3, 8 + b), own == 1 && isLeft ? 2 : 1);
            }
        }
    }

    private static void coloursModes() {
        Streams s = sets(2, 2, 1).sets();
        String[] may = {"0", "01", "02", "0123"};
        for (int mb = 0; mb < 4; mb++) {
            for (int mode = 0; mode < 5; mode++) {
                Data d = s.head(5, 2).data();
                for (int k = 0; k < mb; k++) {
                    d.type(25).raw(50);
                }
                d.type(3).colours(mode);
                if (mode == 4) {
                    fault("colours' mode 4", s, d, OUT);
                } else if (may[mb].indexOf('0' + mode) < 0) {
                    fault("colours' mode " + mode + " in BLOCK " + mb, s, d, WRONG);
                } else {
                    VideoSuite v = whole("colours' mode " + mode + " in BLOCK " + mb, s,
                            d.more(0).token(Codes.token(mb == 0 ? 0 : 3, 0, 0)));
                    Check.due(by("P18 colours' mode"), v.block(mb, 5), mode);
                }
            }
        }
    }

    private static void subs() {
        Streams s = own(sets(1, 1, 2));
        s.add(s.head(1, 2).at(1, 8).data().type(25).raw(1).unit());
        fault("sub 4 of P", s, s.head(1, 0).at(2, 4).data().type(3).sub(0, 1, 4), OUT);
        fault("sub 13 of B", s, s.head(1, 1).at(2, 4).data().type(22).sub(12, 13), OUT);
        int[] moves = {1, 2, 2, 4};
        for (int sub = 0; sub < 4; sub++) {
            Data d = s.head(1, 0).at(2, 4).data().type(3).sub(sub, sub, sub, sub);
            for (int i = 0; i < 4 * moves[sub]; i++) {
                d.move(1, -1);
            }
            VideoSuite v = whole("sub " + sub + " of P", s, d.pattern(0));
            // the first VECTOR is 1 -1; the last one's GUESS is not the same for all
            Check.due(by("P19 x"), v.vector(0, 0, 0, 0), 1);
            Check.due(by("P19 y"), v.vector(0, 0, 0, 1), -1);
            Check.due(by("P19 x of the second column"), v.vector(0, 1, 0, 0), sub > 1 ? 2 : 1);
            Check.due(by("P19 x of the second row"), v.vector(0, 2, 0, 0), sub == 1 || sub == 3 ? 2 : 1);
        }
        int[] use = {0, 1, 2, 3, 1, 1, 2, 2, 3, 3, 1, 2, 3};
        int[] parts = {0, 1, 1, 1, 2, 2, 2, 2, 2, 2, 4, 4, 4};
        for (int sub = 0; sub < 13; sub++) {
            Data d = s.head(1, 1).at(2, 4).data().type(22).sub(0, sub, 0, 0);
            for (int l = 1; l < 3; l++) {
                for (int i = 0; (use[sub] & l) != 0 && i < parts[sub]; i++) {
                    d.move(3, 2);
                }
            }
            VideoSuite v = whole("sub " + sub + " of B", s, d.pattern(0));
            for (int l = 0; l < 2; l++) {
                int r = sub == 0 || (use[sub] >> l & 1) == 1 ? 0 : -1;
                Check.due(by("P19 sub " + sub + ": reference by list " + l), v.vector(0, 4, l, 2), r);
                Check.due(by("P19 sub " + sub + ": x by list " + l), v.vector(0, 4, l, 0), sub > 0 && r == 0 ? 3 : 0);
                Check.due(by("P19 DIRECT beside it"), v.vector(0, 0, l, 2), 0);
            }
        }
    }

    private static Streams three() {
        Streams s = own(sets(1, 1, 3));
        s.add(s.head(1, 2).at(1, 8).data().type(25).raw(1).unit());
        return s.add(s.head(1, 2).at(2, 16).data().type(25).raw(2).unit());
    }

    private static void references() {
        Streams s = three();
        VideoSuite v = whole("N 1: none is read", s, s.head(1, 0).at(3, 4).n(1).data().type(0).move(0, 0).pattern(0));
        Check.due(by("P19 reference"), v.vector(0, 0, 0, 2), 0);
        for (int n = 2; n <= 4; n++) {
            for (int r = 0; r < n; r++) {
                Data d = s.head(1, 0).at(3, 4).n(n).data().type(0).te(n - 1, r);
                if (r == 3) {
                    fault("an entry that isn't there", s, d, WRONG);
                } else {
                    v = whole("reference " + r + " of " + n, s, d.move(0, 0).pattern(0));
                    Check.due(by("P19 reference"), v.vector(0, 0, 0, 2), r);
                }
            }
        }
        fault("reference 3 of 3", s, s.head(1, 0).at(3, 4).n(3).data().type(0).te(2, 3), OUT);
        fault("reference 8 of 8", s, s.head(1, 0).at(3, 4).n(8).data().type(0).te(7, 8), OUT);
        fault("reference 7 of 8, not there", s, s.head(1, 0).at(3, 4).n(8).data().type(0).te(7, 7), WRONG);
    }

    /** List 0, then list 1, part by part; what isn't there is met at its turn. */
    private static void referencesInTurn() {
        Streams s = three();
        // type 20: two parts by both lists
        Data d = s.head(1, 1).at(3, 12).ref(0).n(4, 4).data().type(20).te(3, 0).te(3, 2).te(3, 1).te(3, 0);
        VideoSuite v = whole("four references", s, d.move(1, 1, 0, 0, 0, 0, 0, 0).pattern(0));
        int[][] due = {{0, 0}, {1, 0}, {0, 8}, {1, 8}};
        int[] r = {0, 1, 2, 0};
        for (int i = 0; i < 4; i++) {
            Check.due(by("P19 in turn " + i), v.vector(0, due[i][1], due[i][0], 2), r[i]);
        }
        for (int wrong = 0; wrong < 4; wrong++) {
            d = s.head(1, 1).at(3, 12).ref(0).n(4, 4).data().type(20);
            for (int i = 0; i <= wrong; i++) {
                d.te(3, i == wrong ? 3 : 0);
            }
            fault("an entry that isn't there, at turn " + wrong, s, d, WRONG);
        }
        // QUARTERED: those DIRECT read none
        d = s.head(1, 1).at(3, 12).ref(0).n(4, 4).data().type(22).sub(0, 1, 0, 2).te(3, 2).te(3, 1).move(1, 2, 3, 4);
        v = whole("quarters DIRECT read none", s, d.pattern(0));
        Check.due(by("P19 the second quarter"), v.vector(0, 4, 0, 2), 2);
        Check.due(by("P19 the last quarter"), v.vector(0, 12, 1, 2), 1);
        Check.due(by("P19 the last quarter's x"), v.vector(0, 12, 1, 0), 3);
        // two parts, by list 0 and by list 1
        for (int type = 8; type < 12; type++) {
            int b = type % 2 == 0 ? 8 : 4;
            d = s.head(1, 1).at(3, 12).ref(0).n(4, 4).data().type(type).te(3, 1).te(3, 2).move(5, 6, 7, 8).pattern(0);
            v = whole("type " + type, s, d);
            int first = type < 10 ? 0 : b;
            Check.due(by("P19 type " + type + ", list 0"), v.vector(0, first, 0, 2), 1);
            Check.due(by("P19 type " + type + ", list 1"), v.vector(0, b - first, 1, 2), 2);
            Check.due(by("P19 type " + type + ", list 0 alone"), v.vector(0, first, 1, 2), -1);
            Check.due(by("P19 type " + type + ", x of list 1"), v.vector(0, b - first, 1, 0), 7);
        }
    }

    private static void vectors() {
        Streams s = own(sets(2, 1, 1));
        int[][] ends = {{-2048, -2048}, {2047, 2047}, {-2048, 2047}, {0, -2048}};
        for (int[] e : ends) {
            VideoSuite v = whole("a VECTOR at the end", s, s.head(1, 0).at(1, 2).data().type(0).move(e).pattern(0));
            Check.due(by("P19 x"), v.vector(0, 5, 0, 0), e[0]);
            Check.due(by("P19 y"), v.vector(0, 5, 0, 1), e[1]);
        }
        int[] beyond = {-2049, 2048, -8192, 8191, -8193, 8192};
        for (int x : beyond) {
            Data d = s.head(1, 0).at(1, 2).data().type(0).move(x);
            VideoSuite v = fault("x " + x, s, d, OUT);
            if (coding == 0) {
                Check.due("P25 x is among the ELEMENTS, if it is in its range", v.element(v.count(8) - 1, 2),
                        x < -8192 || x > 8191 ? 0 : x);
            }
            d = s.head(1, 0).at(1, 2).data().type(0).move(9, x);
            v = fault("y " + x, s, d, OUT);
            if (coding == 0) {
                Check.due("P25 y is among the ELEMENTS, if it is in its range", v.element(v.count(8) - 1, 2),
                        x < -8192 || x > 8191 ? 9 : x);
            }
        }
        // it counts with its GUESS: 2047 and 1 more, -2000 and 4047 more
        Data d = s.head(1, 0).at(1, 2).data().type(0).move(2047, -2000).pattern(0).type(0).move(1);
        fault("the GUESS and 1", s, d, OUT);
        d = s.head(1, 0).at(1, 2).data().type(0).move(2047, -2000).pattern(0).type(0).move(-4095, 4047).pattern(0);
        VideoSuite v = whole("the GUESS and as much as may be", s, d);
        Check.due(by("P19 x"), v.vector(1, 0, 0, 0), -2048);
        Check.due(by("P19 y"), v.vector(1, 0, 0, 1), 2047);
        d = s.head(1, 0).at(1, 2).data().type(0).move(2047, -2000).pattern(0).type(0).move(-4095, 4048);
        fault("the GUESS and one more", s, d, OUT);
    }

    private static void patterns() {
        Streams s = own(sets(1, 1, 1));
        int[] table = Codes.numbers(Codes.between("chroma pattern: it / 16.", "Then, if a pattern"));
        for (int k = 0; k < 48; k++) {
            for (int kind = 0; kind < 2; kind++) {
                Data d = s.head(1, 0).at(1, 2).data();
                if (kind == 0) {
                    d.type(5);
                    for (int b = 0; b < 16; b++) {
                        d.given();
                    }
                    d.colours(0);
                } else {
                    d.type(0).move(0, 0);
                }
                d.pattern(k);
                int pattern = table[48 * kind + k];
                if (pattern > 0) {
                    d.more(-1);
                }
                int tokens = 4 * Integer.bitCount(pattern & 15);
                for (int i = 0; i < tokens; i++) {
                    d.token(Codes.token(0, 0, 0));
                }
                for (int i = 0; i < 2 && pattern > 15; i++) {
                    d.token(Codes.token(4, 0, 0));
                }
                for (int i = 0; i < 8 && pattern > 31; i++) {
                    d.token(Codes.token(0, 0, 0));
                }
                VideoSuite v = whole("pattern " + k, s, d);
                Check.due(by("P18 luma pattern of code " + k), v.block(0, 3), pattern & 15);
                Check.due(by("P18 chroma pattern of code " + k), v.block(0, 4), pattern >> 4);
                Check.due(by("P18 STEP of code " + k), v.block(0, 2), pattern > 0 ? 25 : 26);
            }
        }
        fault("pattern 48", s, s.head(1, 0).at(1, 2).data().type(0).move(0, 0).pattern(48), OUT);
    }

    private static Data sixteen(Data d, int more) {
        return d.type(3).colours(0).more(more).token("1");
    }

    private static void stepsOfBlocks() {
        Streams s = sets(2, 2, 1).sets();
        int[] more = {-26, 25, -1, 1};
        for (int first = 0; first < 52; first += 17) {
            for (int m : more) {
                Streams.Head h = s.head(5, 2);
                h.more = first - 26;
                VideoSuite v = whole("more " + m, s, sixteen(sixteen(h.data(), m), 0));
                Check.due(by("P18 STEP " + first + " and " + m), v.block(0, 2), (first + m + 52) % 52);
                Check.due(by("P18 the next one's"), v.block(1, 2), (first + m + 52) % 52);
                Check.due(by("P17 the SLICE's stays"), v.slice(12), first);
            }
        }
        fault("more 26", s, s.head(5, 2).data().type(3).colours(0).more(26), OUT);
        fault("more -27", s, s.head(5, 2).data().type(3).colours(0).more(-27), OUT);
    }

    /** The BLOCK before counts, also one SKIPPED or RAW; a SLICE begins with its own. */
    private static void stepsBehindOthers() {
        Streams s = own(sets(2, 2, 1));
        Data d = s.head(1, 0).at(1, 2).data().type(5 + 3).colours(0).more(7).token("1").skipped(1).type(30).raw(9);
        d.type(0).move(0, 0).pattern(0);
        VideoSuite v = whole("STEPS", s, d);
        int[] due = {33, 33, 0, 33};
        for (int mb = 0; mb < 4; mb++) {
            Check.due(by("P18 STEP of BLOCK " + mb), v.block(mb, 2), due[mb]);
        }
        s.add(s.head(1, 0).at(1, 2).data().type(5 + 3).colours(0).more(7).token("1").unit());
        Streams.Head h = s.head(1, 0).at(1, 2).from(1);
        h.more = -4;
        v = whole("another SLICE", s, h.data().type(5 + 3).colours(0).more(1).token("1"));
        Check.due(by("P18 STEP by its SLICE"), v.block(1, 2), 23);
    }

    /** TABLES: run. */
    private static void runs() {
        coding = 0;
        Streams s = own(sets(3, 2, 1));
        VideoSuite v = decoded(s, s.head(1, 0).at(1, 2).unit(s.head(1, 0).at(1, 2).bits().ue(6)));
        Check.due("a run of all: FAULTS", v.count(4), 0);
        Check.due("a run of all", v.slice(16), 6);
        Bits b = s.head(1, 0).at(1, 2).bits();
        fault("a run of one more", decoded(s, s.head(1, 0).at(1, 2).unit(s.head(1, 0).at(1, 2).bits().ue(7))),
                b.length(), OUT);
        b = s.head(1, 0).at(1, 2).from(2).bits();
        fault("a run of more than are left", decoded(s, s.head(1, 0).unit(s.head(1, 0).at(1, 2).from(2).bits().ue(5))),
                b.length(), OUT);
        v = decoded(s, s.head(1, 0).unit(s.head(1, 0).at(1, 2).from(2).bits().ue(4)));
        Check.due("a run of what is left", v.slice(16), 4);
        // behind a run, BITS with MORE: a BLOCK; there is none left
        b = s.head(1, 0).at(1, 2).bits();
        fault("a run of all, and MORE", decoded(s, s.head(1, 0).unit(s.head(1, 0).at(1, 2).bits().ue(6).ue(0))),
                b.length(), WRONG);
        // behind the last BLOCK: MORE, so a run again: 0 at most, then a BLOCK
        b = s.head(1, 0).at(1, 2).bits().ue(5).ue(0).se(0).se(0).ue(0);
        Bits c = s.head(1, 0).at(1, 2).bits().ue(5).ue(0).se(0).se(0).ue(0).ue(1);
        fault("a run behind the last", decoded(s, s.head(1, 0).unit(c)), b.length(), OUT);
        c = s.head(1, 0).at(1, 2).bits().ue(5).ue(0).se(0).se(0).ue(0).ue(0).ue(0);
        fault("a BLOCK behind the last", decoded(s, s.head(1, 0).unit(c)), b.length(), WRONG);
        // a run that meets a BLOCK that is there: those before it are decoded
        s.add(s.head(1, 0).at(1, 2).from(3).unit(s.head(1, 0).at(1, 2).from(3).bits().ue(1)));
        b = s.head(1, 0).at(1, 2).from(1).bits();
        v = fault("a run over one that is there", decoded(s, s.head(1, 0).unit(s.head(1, 0).at(1, 2).from(1).bits().ue(4))),
                b.length(), WRONG);
        Check.due("those before are decoded", v.slice(16), 2);
        Check.due("those before are decoded", v.block(2, 0), 3);
        Check.due("those behind are not", v.block(4, 0), -1);
        // 0 and MORE or not: a BLOCK
        b = s.head(1, 0).at(1, 2).bits();
        v = decoded(s, s.head(1, 0).at(1, 2).bits().ue(0).plain(0x21));
        fault("a run of 0, BITS end", v, b.length() + 1, END);
    }

    /** STOP is the last bit 1, also one of an ELEMENT: behind that there isn't MORE. */
    private static void withoutStop() {
        coding = 0;
        Streams s = own(sets(3, 2, 1));
        for (int run = 1; run < 7; run++) {
            VideoSuite v = decoded(s, s.head(1, 0).at(1, 2).bits().ue(run).plain(0x21));
            Check.due("a run of " + run + " without STOP: FAULTS", v.count(4), 0);
            Check.due("a run of " + run + " without STOP", v.slice(16), run);
        }
        VideoSuite v = decoded(s, s.head(5, 2).data().type(25).raw(255, 0, 0).cut());
        Check.due("RAW without STOP: FAULTS", v.count(4), 0);
        Check.due("RAW without STOP", v.slice(16), 1);
        Check.due("RAW without STOP: STOP", v.unit(3, 4) < 8 * (v.unit(3, 3) - 129) ? 1 : 0, 1);
    }

    /** P type 4: no references are read; in ARITH it is OUT. */
    private static void quarteredByNone() {
        coding = 0;
        Streams s = three();
        Data d = s.head(1, 0).at(3, 4).n(3).data().type(4).sub(0, 0, 0, 0).move(1, 1, 1, 1, 1, 1, 1, 1).pattern(0);
        VideoSuite v = whole("type 4", s, d);
        Check.due("P19 its references are 0", v.vector(0, 12, 0, 2), 0);
        Check.due("P18 its type", v.block(0, 1), 4);
        coding = 1;
        s = three();
        fault("type 4", s, s.head(1, 0).at(3, 4).n(3).data().type(4), OUT);
    }

    /** Bits 1 up to a whole byte before DATA. */
    private static void beginOfArith() {
        coding = 1;
        for (int id = 0; id < 70000; id = 2 * id + 1) {
            Streams s = sets(1, 1, 1).sets();
            Streams.Head h = s.head(5, 2);
            h.ownId = id > 65535 ? 65535 : id;
            int n = h.bits().length();
            VideoSuite v = decoded(s, h.data().type(25).raw(3).unit());
            Check.due("ARITH behind " + n + " bits: FAULTS", v.count(4), 0);
            for (int wrong = 0; wrong < (-n & 7); wrong++) {
                Bits b = h.bits();
                for (int i = 0; i < wrong; i++) {
                    b.u(1, 1);
                }
                v = decoded(s, b.u(1, 0).align(1).u(24, 0x123456).plain(h.lead()));
                fault("a bit 0 behind " + wrong, v, n + wrong + 1, OUT);
                Check.due("P17 the SLICE was begun", v.count(7), 1);
            }
            v = decoded(s, h.bits().align(1).plain(h.lead()));
            fault("no OFFSET", v, (n + 7) / 8 * 8, END);
            v = decoded(s, h.bits().align(1).u(8, 0).plain(h.lead()));
            fault("8 bits of OFFSET", v, (n + 7) / 8 * 8 + 8, END);
            Check.due("P25 ELEMENTS of the HEADER alone", v.count(8), 12);
        }
    }

    private static void endOfArith() {
        coding = 1;
        Streams s = own(sets(2, 1, 1));
        // END 1 ends the SLICE, whatever follows
        byte[] unit = s.head(1, 0).at(1, 2).data().skipped(1).unit();
        byte[] more = java.util.Arrays.copyOf(unit, unit.length + 9);
        java.util.Arrays.fill(more, unit.length, more.length, (byte) 0x5a);
        VideoSuite v = decoded(s, more);
        Check.due("ARITH, behind END: FAULTS", v.count(4), 0);
        Check.due("ARITH, behind END: BLOCKS decoded", v.slice(16), 1);
        // before RAW's samples the END decision must be 1
        Data d = s.head(1, 0).at(1, 2).data().type(30).end(false);
        int place = d.place();
        fault("RAW without END", decoded(s, d.ue(1, 30).unit()), place, WRONG);
        // BITS end where decisions are read
        byte[] cut = s.head(1, 0).at(1, 2).data().type(5).rest(8).cut();
        v = decoded(s, java.util.Arrays.copyOf(cut, cut.length - 1));
        Check.due("ARITH, BITS end: its kind", v.fault(0, 2), END);
        Check.due("ARITH, BITS end: all are taken", v.fault(0, 1), 8 * (cut.length - 2));
    }

    /** STATES begin anew in every SLICE, and go on behind RAW. */
    private static void statesAnew() {
        coding = 1;
        Streams s = own(sets(4, 2, 1));
        for (int k = 0; k < 2; k++) {
            Data d = s.head(1, 0).at(1, 2).from(4 * k).data().skipped(1).type(0).move(3, -40).pattern(0).type(30).raw(77);
            s.add(d.type(0).move(-5, 700).pattern(0).unit());
        }
        VideoSuite v = s.object();
        v.decode(400);
        Check.due("ARITH, two SLICES: FAULTS", v.count(4), 0);
        int[] kinds = {3, 3, 2, 3, 3, 3, 2, 3};
        for (int mb = 0; mb < 8; mb++) {
            Check.due("ARITH, kind of BLOCK " + mb, v.block(mb, 0), kinds[mb]);
        }
        Check.due("ARITH, behind RAW", v.vector(7, 0, 0, 1), v.vector(3, 0, 0, 1));
    }

    /** More likely decisions of one state than there are STATES; ELEMENTS of more than 16 bits. */
    private static void manyDecisions() {
        coding = 1;
        Streams s = sets(8, 4, 1);
        grey(s);
        Data d = s.head(1, 0).at(1, 2).data();
        for (int mb = 0; mb < 32; mb++) {
            four(d.type(5));
        }
        VideoSuite v = whole("512 modes as guessed", s, d);
        Check.due("ARITH, the last one is there", v.block(31, 0), 0);
    }

    /** ARITH: each ELEMENT more than once in one SLICE, so that each state goes its own way. */
    private static void allElements() {
        coding = 1;
        Streams s = sets(4, 2, 4);
        own(s);
        for (int i = 1; i < 4; i++) {
            s.add(s.head(1, 2).at(i, 10 * i).data().type(25).raw(30 * i).unit());
        }
        int[] moves = {5, -9, 130, 2, -1, 0, 0, 77, -600, 3, 0, 1, 1, 1, -2, 8, 31, -32, 15, 16, 7, -7, 3, 4, 0, 0, 900, -90};
        Data d = s.head(1, 1).at(4, 15).ref(0).n(4, 3).data();
        d.type(22).sub(4, 9, 0, 12).te(3, 2).te(3, 3).te(3, 1).te(2, 2).te(2, 1).move(moves).pattern(0);
        d.skipped(1).type(26).colours(0).more(-7);
        Codes.levels(d, 0, 16, 40, -17, 0, 0, 2, 1, 0, -1).skipped(1).type(48).raw(3, 2, 1).type(23);
        // the left one is RAW, above it is by lists: the GUESS is 2
        for (int b = 0; b < 16; b++) {
            d.given();
        }
        d.colours(1).pattern(3).type(12).te(3, 1).te(3, 3).te(2, 0).move(1, 2, 3, 4, 5, 6).pattern(0);
        d.type(26 + 4).colours(0).more(9);
        Codes.levels(d, 0, 16, -1, 0, 0, 1);
        Codes.levels(d, 4, 4, 5, 0, -2, 1);
        VideoSuite v = whole("all ELEMENTS", s, Codes.levels(d, 4, 4, 0, 1));
        int[] kinds = {3, 3, 1, 3, 2, 0, 3, 1};
        int[] steps = {26, 26, 19, 19, 0, 19, 19, 28};
        for (int mb = 0; mb < 8; mb++) {
            Check.due("ARITH, kind of BLOCK " + mb, v.block(mb, 0), kinds[mb]);
            Check.due("ARITH, STEP of BLOCK " + mb, v.block(mb, 2), steps[mb]);
        }
        Check.due("ARITH, the last LEVEL", v.level(7, 18, 1), 1);
        Check.due("ARITH, a reference", v.vector(6, 8, 0, 2), 3);
    }

    /** END decisions where RANGE is just below 256 behind them, or just not. */
    private static void manyEnds() {
        coding = 1;
        java.util.Random chance = new java.util.Random(17);
        Streams s = sets(8, 4, 2);
        grey(s);
        s.add(s.head(1, 2).at(1, 8).data().type(25).raw(1).unit());
        for (int i = 0; i < 60; i++) {
            Data d = s.head(1, 0).at(2, 4).n(2).data();
            for (int mb = 0; mb < 32; mb++) {
                int kind = chance.nextInt(8);
                if (kind < 3) {
                    d.skipped(1);
                } else if (kind < 6) {
                    d.type(0).te(1, chance.nextInt(2)).move(chance.nextInt(9) - 4, chance.nextInt(40) - 20).pattern(0);
                } else if (kind == 6) {
                    d.type(2).te(1, 0).te(1, 1).move(chance.nextInt(9) - 4, 3, 5, -1).pattern(0);
                } else {
                    d.type(30).raw(mb);
                }
            }
            VideoSuite v = whole("many ENDs", s, d);
            Check.due("ARITH, BLOCKS", v.slice(16), 32);
        }
    }

    /** One BLOCK more than a picture can have. */
    private static void behindThirtyTwo() {
        for (coding = 0; coding < 2; coding++) {
            Streams s = sets(8, 4, 1);
            s.sets();
            Data d = s.head(5, 2).data();
            for (int mb = 0; mb < 32; mb++) {
                d.type(3).colours(0).more(0).token("1");
            }
            Check.due(by("32 BLOCKS"), behind("one behind 32", s, d).slice(16), 32);
            grey(s);
            d = s.head(1, 0).at(1, 2).data();
            for (int mb = 0; mb < 32; mb++) {
                d.type(0).move(0, 0).pattern(0);
            }
            VideoSuite v = decoded(s, (coding == 0 ? d.type(0) : d.end(false).ue(1, 0)).unit());
            Check.due(by("one behind 32 of P"), v.fault(0, 2), WRONG);
            Check.due(by("32 BLOCKS of P"), v.slice(16), 32);
        }
    }
}
