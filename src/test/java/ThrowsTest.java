import java.util.ArrayList;
import java.util.List;
import java.util.NoSuchElementException;

/** A call that throws: which exception of several, and that nothing has changed but as the document says. */
public final class ThrowsTest {
    private static final Class<?> BAD = IllegalArgumentException.class;
    private static final Class<?> MISSING = NoSuchElementException.class;
    private static final Class<?> REFUSED = IllegalStateException.class;

    public static void main(String[] args) {
        for (Wrong w : wrongs()) {
            nothingChanges(w);
        }
        splitRefused();
        demuxRefused();
        beforeOpen();
        Check.end();
    }

    interface Call {
        long answer(VideoSuite v);
    }

    private static final class Wrong {
        final String what;
        final Class<?> due;
        final Call call;

        Wrong(String text, Class<?> exception, Call c) {
            what = text;
            due = exception;
            call = c;
        }
    }

    /** What is wrong in the state that rich() makes; of several reasons the first in the order bad, missing, REFUSED. */
    private static List<Wrong> wrongs() {
        List<Wrong> w = new ArrayList<>();
        streamCalls(w);
        decoderCalls(w);
        toldCalls(w);
        coderCalls(w);
        measureCalls(w);
        fewMore(w);
        for (int far : new int[] {1000003, Integer.MAX_VALUE, -1000003, Integer.MIN_VALUE}) {
            farOfStream(w, far);
            farOfDecoder(w, far);
            farOfRest(w, far);
        }
        return w;
    }

    private static void add(List<Wrong> w, String what, Class<?> due, Call call) {
        w.add(new Wrong(what, due, call));
    }

    private static void streamCalls(List<Wrong> w) {
        add(w, "end(-1)", BAD, v -> v.end(-1));
        add(w, "end(21)", BAD, v -> v.end(21));
        add(w, "end of the most", BAD, v -> v.end(Integer.MAX_VALUE));
        add(w, "split(-1)", BAD, v -> v.split(-1));
        add(w, "split(5)", BAD, v -> v.split(5));
        add(w, "unit(0, 6)", BAD, v -> v.unit(0, 6));
        add(w, "unit(99, -1)", BAD, v -> v.unit(99, -1));
        add(w, "unit(9, 0)", MISSING, v -> v.unit(9, 0));
        add(w, "unit(-1, 5)", MISSING, v -> v.unit(-1, 5));
        add(w, "unitByte(9, 0)", MISSING, v -> v.unitByte(9, 0));
        add(w, "unitByte(-1, 0)", MISSING, v -> v.unitByte(-1, 0));
        add(w, "unitByte(0, -1)", MISSING, v -> v.unitByte(0, -1));
        add(w, "unitByte behind", MISSING, v -> v.unitByte(0, v.unit(0, 2)));
        add(w, "lose(9)", MISSING, v -> v.lose(9));
        add(w, "lose(-1)", MISSING, v -> v.lose(-1));
        add(w, "lose(0), decoded", REFUSED, v -> v.lose(0));
        add(w, "lose of the last decoded", REFUSED, v -> v.lose(v.count(2) - 1));
        add(w, "flip(9, -1)", MISSING, v -> v.flip(9, -1));
        add(w, "flip(-1, 0)", MISSING, v -> v.flip(-1, 0));
        add(w, "flip(0, -1), decoded", BAD, v -> v.flip(0, -1));
        add(w, "flip behind, decoded", BAD, v -> v.flip(0, 8 * v.unit(0, 2)));
        add(w, "flip behind, not decoded", BAD, v -> v.flip(8, 8 * v.unit(8, 2)));
        add(w, "flip(0, 0), decoded", REFUSED, v -> v.flip(0, 0));
        add(w, "flip of the last decoded", REFUSED, v -> v.flip(v.count(2) - 1, 7));
        add(w, "box(0, 4)", BAD, v -> v.box(0, 4));
        add(w, "box(99, -1)", BAD, v -> v.box(99, -1));
        add(w, "box(7, 0)", MISSING, v -> v.box(7, 0));
        add(w, "box(-1, 3)", MISSING, v -> v.box(-1, 3));
        add(w, "buffer(-1, 0)", BAD, v -> v.buffer(-1, 0));
        add(w, "buffer(0, -1)", BAD, v -> v.buffer(0, -1));
        add(w, "buffer above", BAD, v -> v.buffer((1 << 30) + 1, 1 << 30));
        add(w, "buffer above", BAD, v -> v.buffer(1 << 30, (1 << 30) + 1));
    }

    private static void decoderCalls(List<Wrong> w) {
        add(w, "repair(-1)", BAD, v -> v.repair(-1));
        add(w, "repair(4)", BAD, v -> v.repair(4));
        add(w, "decode(0)", BAD, v -> v.decode(0));
        add(w, "decode(-1)", BAD, v -> v.decode(-1));
        add(w, "decode(401)", BAD, v -> v.decode(401));
        add(w, "picture(0, 7)", BAD, v -> v.picture(0, 7));
        add(w, "picture(9, -1)", BAD, v -> v.picture(9, -1));
        add(w, "picture(2, 0)", MISSING, v -> v.picture(2, 0));
        add(w, "picture(-1, 6)", MISSING, v -> v.picture(-1, 6));
        add(w, "sample of OUTPUT 2", MISSING, v -> v.sample(2, 0, 0, 0));
        add(w, "sample of plane 3", MISSING, v -> v.sample(0, 3, 0, 0));
        add(w, "sample of plane -1", MISSING, v -> v.sample(0, -1, 0, 0));
        add(w, "sample at 32, 0", MISSING, v -> v.sample(0, 0, 32, 0));
        add(w, "sample at 0, 16", MISSING, v -> v.sample(0, 0, 0, 16));
        add(w, "sample at 16, 0 of chroma", MISSING, v -> v.sample(0, 1, 16, 0));
        add(w, "sample at -1, 0", MISSING, v -> v.sample(0, 0, -1, 0));
        add(w, "sum of OUTPUT 2", MISSING, v -> v.sum(2, 0));
        add(w, "sum of plane 3", MISSING, v -> v.sum(0, 3));
        add(w, "histogram of OUTPUT -1", MISSING, v -> v.histogram(-1, 0, 0));
        add(w, "histogram of plane 3", MISSING, v -> v.histogram(0, 3, 0));
        add(w, "set(2, 9, 0)", BAD, v -> v.set(2, 9, 0));
        add(w, "set(-1, 0, 0)", BAD, v -> v.set(-1, 0, 0));
        add(w, "set(0, 9, 11)", BAD, v -> v.set(0, 9, 11));
        add(w, "set(1, 0, -1)", BAD, v -> v.set(1, 0, -1));
        add(w, "set(0, 1, 0)", MISSING, v -> v.set(0, 1, 0));
        add(w, "set(1, 3, 10)", MISSING, v -> v.set(1, 3, 10));
        add(w, "set(1, 4, 0)", MISSING, v -> v.set(1, 4, 0));
        add(w, "set(0, -1, 0)", MISSING, v -> v.set(0, -1, 0));
        add(w, "slice(-1)", BAD, v -> v.slice(-1));
        add(w, "slice(18)", BAD, v -> v.slice(18));
    }

    private static void toldCalls(List<Wrong> w) {
        int[] whats = {-1, 7, 24};
        for (int what : whats) {
            add(w, "block(0, " + what + ")", BAD, v -> v.block(0, what));
            add(w, "block(9, " + what + ")", BAD, v -> v.block(9, what));
        }
        add(w, "block(2, 0)", MISSING, v -> v.block(2, 0));
        add(w, "block(-1, 23)", MISSING, v -> v.block(-1, 23));
        int[][] bad = {{16, 0, 0}, {-1, 0, 0}, {0, 2, 0}, {0, -1, 0}, {0, 0, 3}, {0, 0, -1}};
        for (int[] b : bad) {
            add(w, "vector of " + b[0] + ", " + b[1] + ", " + b[2], BAD, v -> v.vector(9, b[0], b[1], b[2]));
        }
        add(w, "vector of BLOCK 2", MISSING, v -> v.vector(2, 0, 0, 0));
        add(w, "vector of BLOCK -1", MISSING, v -> v.vector(-1, 15, 1, 2));
        int[][] levels = {{27, 0}, {-1, 0}, {0, 16}, {0, -1}};
        for (int[] l : levels) {
            add(w, "level of " + l[0] + ", " + l[1], BAD, v -> v.level(9, l[0], l[1]));
        }
        add(w, "level of BLOCK 2", MISSING, v -> v.level(2, 26, 15));
        add(w, "edge of piece 16", BAD, v -> v.edge(9, 16, 0));
        add(w, "edge of piece -1", BAD, v -> v.edge(0, -1, 0));
        add(w, "edge of way 2", BAD, v -> v.edge(9, 0, 2));
        add(w, "edge of way -1", BAD, v -> v.edge(0, 0, -1));
        add(w, "edge of BLOCK 2", MISSING, v -> v.edge(2, 15, 1));
        add(w, "stored(9, 7)", BAD, v -> v.stored(9, 7));
        add(w, "stored(0, -1)", BAD, v -> v.stored(0, -1));
        add(w, "stored behind", MISSING, v -> v.stored(v.count(5), 0));
        add(w, "stored(-1, 6)", MISSING, v -> v.stored(-1, 6));
        add(w, "entry(2, 0)", BAD, v -> v.entry(2, 0));
        add(w, "entry(-1, 99)", BAD, v -> v.entry(-1, 99));
        add(w, "entry(0, 8)", MISSING, v -> v.entry(0, 8));
        add(w, "entry(1, 0)", MISSING, v -> v.entry(1, 0));
        add(w, "entry(0, -1)", MISSING, v -> v.entry(0, -1));
        add(w, "fault(0, 3)", BAD, v -> v.fault(0, 3));
        add(w, "fault(9, -1)", BAD, v -> v.fault(9, -1));
        add(w, "fault behind", MISSING, v -> v.fault(v.count(4), 0));
        add(w, "fault(-1, 2)", MISSING, v -> v.fault(-1, 2));
        add(w, "element(0, 3)", BAD, v -> v.element(0, 3));
        add(w, "element(9999, -1)", BAD, v -> v.element(9999, -1));
        add(w, "element behind", MISSING, v -> v.element(v.count(8), 0));
        add(w, "element(-1, 2)", MISSING, v -> v.element(-1, 2));
    }

    private static void coderCalls(List<Wrong> w) {
        add(w, "setting(24, 0)", BAD, v -> v.setting(24, 0));
        add(w, "setting(-1, 0)", BAD, v -> v.setting(-1, 0));
        add(w, "setting(0, 0)", BAD, v -> v.setting(0, 0));
        add(w, "setting(23, 13)", BAD, v -> v.setting(23, 13));
        add(w, "paint(-1, ..)", BAD, v -> v.paint(-1, 0, 0, 0));
        add(w, "paint(5, ..)", BAD, v -> v.paint(5, 0, 0, 0));
        add(w, "made(-1)", MISSING, v -> v.made(-1));
        add(w, "made behind", MISSING, v -> v.made(v.count(9)));
        add(w, "coded(0, 7)", BAD, v -> v.coded(0, 7));
        add(w, "coded(9, -1)", BAD, v -> v.coded(9, -1));
        add(w, "coded behind", MISSING, v -> v.coded(v.count(10), 0));
        add(w, "coded(-1, 6)", MISSING, v -> v.coded(-1, 6));
    }

    private static void measureCalls(List<Wrong> w) {
        add(w, "quality of what 3", BAD, v -> v.quality(9, 9, 3, -1, -1));
        add(w, "quality of what -1", BAD, v -> v.quality(0, 1, -1, 0, 0));
        add(w, "quality of OUTPUT 2", MISSING, v -> v.quality(2, 0, 0, 0, 0));
        add(w, "quality by OUTPUT 2", MISSING, v -> v.quality(0, 2, 0, 0, 0));
        add(w, "quality at 2, 0", MISSING, v -> v.quality(0, 1, 1, 2, 0));
        add(w, "quality at 28, 0", MISSING, v -> v.quality(0, 1, 2, 28, 0));
        add(w, "quality at 0, 12", MISSING, v -> v.quality(0, 1, 1, 0, 12));
        add(w, "quality at -4, 0", MISSING, v -> v.quality(0, 1, 1, -4, 0));
        int[][] bad = {{0, 1, 0, 0}, {1, 0, 0, 0}, {257, 1, 0, 0}, {1, 257, 0, 0}, {3, 3, 3, 0}, {3, 3, 0, 3}, {3, 3, -1, 0},
            {3, 3, 0, -1}};
        for (int[] b : bad) {
            add(w, "scale to " + b[0] + " by " + b[1], BAD, v -> v.scale(9, 9, b[0], b[1], b[2], b[3]));
        }
        add(w, "scale of OUTPUT 2", MISSING, v -> v.scale(2, 0, 1, 1, 0, 0));
        add(w, "scale of plane 3", MISSING, v -> v.scale(0, 3, 1, 1, 0, 0));
    }

    /** Not just behind the last one, but still within what may be kept. */
    private static void fewMore(List<Wrong> w) {
        add(w, "unit, 3 more", MISSING, v -> v.unit(v.count(1) + 3, 0));
        add(w, "unitByte, 3 more", MISSING, v -> v.unitByte(0, v.unit(0, 2) + 3));
        add(w, "lose, 3 more", MISSING, v -> v.lose(v.count(1) + 3));
        add(w, "flip, 3 more", BAD, v -> v.flip(6, 8 * v.unit(6, 2) + 3));
        add(w, "flip of UNIT 3 more", MISSING, v -> v.flip(v.count(1) + 3, 0));
        add(w, "box, 3 more", MISSING, v -> v.box(v.count(12) + 3, 0));
        add(w, "picture, 3 more", MISSING, v -> v.picture(v.count(3) + 3, 0));
        add(w, "sample 3 more to the right", MISSING, v -> v.sample(0, 0, 35, 0));
        add(w, "sample 3 more below", MISSING, v -> v.sample(0, 0, 0, 19));
        add(w, "block, 3 more", MISSING, v -> v.block(5, 0));
        add(w, "edge, 3 more", MISSING, v -> v.edge(5, 0, 0));
        add(w, "stored, 3 more", MISSING, v -> v.stored(v.count(5) + 3, 0));
        add(w, "entry, 3 more", MISSING, v -> v.entry(0, 6));
        add(w, "fault, 3 more", MISSING, v -> v.fault(v.count(4) + 3, 0));
        add(w, "element, 3 more", MISSING, v -> v.element(v.count(8) + 3, 0));
        add(w, "made, 3 more", MISSING, v -> v.made(v.count(9) + 3));
        add(w, "coded, 3 more", MISSING, v -> v.coded(v.count(10) + 3, 0));
        add(w, "scale 3 more to the right", BAD, v -> v.scale(0, 0, 4, 4, 7, 0));
        add(w, "scale 3 more below", BAD, v -> v.scale(0, 0, 4, 4, 0, 7));
        add(w, "quality 8 more to the right", MISSING, v -> v.quality(0, 1, 1, 32, 0));
        add(w, "quality 8 more below", MISSING, v -> v.quality(0, 1, 1, 0, 16));
    }

    private static void farOfStream(List<Wrong> w, int far) {
        add(w, "end of " + far, BAD, v -> v.end(far));
        add(w, "split by " + far, BAD, v -> v.split(far));
        add(w, "unit " + far, MISSING, v -> v.unit(far, 0));
        add(w, "unit, what " + far, BAD, v -> v.unit(0, far));
        add(w, "unitByte of " + far, MISSING, v -> v.unitByte(far, 0));
        add(w, "unitByte " + far, MISSING, v -> v.unitByte(0, far));
        add(w, "lose " + far, MISSING, v -> v.lose(far));
        add(w, "flip of " + far, MISSING, v -> v.flip(far, 0));
        add(w, "flip " + far, BAD, v -> v.flip(6, far));
        add(w, "box " + far, MISSING, v -> v.box(far, 0));
        add(w, "box, what " + far, BAD, v -> v.box(0, far));
        if (far != 1000003 && far != -1000003) {
            add(w, "buffer, rate " + far, BAD, v -> v.buffer(far, 0));
            add(w, "buffer, size " + far, BAD, v -> v.buffer(0, far));
        }
    }

    private static void farOfDecoder(List<Wrong> w, int far) {
        add(w, "repair by " + far, BAD, v -> v.repair(far));
        add(w, "decode " + far, BAD, v -> v.decode(far));
        add(w, "set of kind " + far, BAD, v -> v.set(far, 0, 0));
        add(w, "set " + far, MISSING, v -> v.set(0, far, 0));
        add(w, "set, what " + far, BAD, v -> v.set(1, 0, far));
        add(w, "slice, what " + far, BAD, v -> v.slice(far));
        add(w, "block " + far, MISSING, v -> v.block(far, 0));
        add(w, "block, what " + far, BAD, v -> v.block(0, far));
        add(w, "vector of BLOCK " + far, MISSING, v -> v.vector(far, 0, 0, 0));
        add(w, "vector of piece " + far, BAD, v -> v.vector(0, far, 0, 0));
        add(w, "vector of list " + far, BAD, v -> v.vector(0, 0, far, 0));
        add(w, "vector, what " + far, BAD, v -> v.vector(0, 0, 0, far));
        add(w, "level of BLOCK " + far, MISSING, v -> v.level(far, 0, 0));
        add(w, "level of piece " + far, BAD, v -> v.level(0, far, 0));
        add(w, "level " + far, BAD, v -> v.level(0, 0, far));
        add(w, "edge of BLOCK " + far, MISSING, v -> v.edge(far, 0, 0));
        add(w, "edge of piece " + far, BAD, v -> v.edge(0, far, 0));
        add(w, "edge, way " + far, BAD, v -> v.edge(0, 0, far));
        add(w, "stored " + far, MISSING, v -> v.stored(far, 0));
        add(w, "stored, what " + far, BAD, v -> v.stored(0, far));
        add(w, "entry of list " + far, BAD, v -> v.entry(far, 0));
        add(w, "entry " + far, MISSING, v -> v.entry(0, far));
        add(w, "fault " + far, MISSING, v -> v.fault(far, 0));
        add(w, "fault, what " + far, BAD, v -> v.fault(0, far));
        add(w, "element " + far, MISSING, v -> v.element(far, 0));
        add(w, "element, what " + far, BAD, v -> v.element(0, far));
    }

    private static void farOfRest(List<Wrong> w, int far) {
        add(w, "setting " + far, BAD, v -> v.setting(far, 1));
        add(w, "WIDTH " + far, BAD, v -> v.setting(0, far));
        add(w, "budget " + far, BAD, v -> v.setting(16, far));
        add(w, "paint, how " + far, BAD, v -> v.paint(far, 0, 0, 0));
        add(w, "made " + far, MISSING, v -> v.made(far));
        add(w, "coded " + far, MISSING, v -> v.coded(far, 0));
        add(w, "coded, what " + far, BAD, v -> v.coded(0, far));
        add(w, "picture " + far, MISSING, v -> v.picture(far, 0));
        add(w, "picture, what " + far, BAD, v -> v.picture(0, far));
        add(w, "sample of OUTPUT " + far, MISSING, v -> v.sample(far, 0, 0, 0));
        add(w, "sample of plane " + far, MISSING, v -> v.sample(0, far, 0, 0));
        add(w, "sample at x " + far, MISSING, v -> v.sample(0, 0, far, 0));
        add(w, "sample at y " + far, MISSING, v -> v.sample(0, 0, 0, far));
        add(w, "sum of OUTPUT " + far, MISSING, v -> v.sum(far, 0));
        add(w, "sum of plane " + far, MISSING, v -> v.sum(0, far));
        add(w, "histogram of OUTPUT " + far, MISSING, v -> v.histogram(far, 0, 0));
        add(w, "histogram of plane " + far, MISSING, v -> v.histogram(0, far, 0));
        add(w, "quality of OUTPUT " + far, MISSING, v -> v.quality(far, 0, 0, 0, 0));
        add(w, "quality by OUTPUT " + far, MISSING, v -> v.quality(0, far, 0, 0, 0));
        add(w, "quality, what " + far, BAD, v -> v.quality(0, 1, far, 0, 0));
        add(w, "quality at x " + far, MISSING, v -> v.quality(0, 1, 1, far, 0));
        add(w, "quality at y " + far, MISSING, v -> v.quality(0, 1, 2, 0, far & -4));
        add(w, "scale of OUTPUT " + far, MISSING, v -> v.scale(far, 0, 1, 1, 0, 0));
        add(w, "scale of plane " + far, MISSING, v -> v.scale(0, far, 1, 1, 0, 0));
        add(w, "scale to width " + far, BAD, v -> v.scale(0, 0, far, 1, 0, 0));
        add(w, "scale to height " + far, BAD, v -> v.scale(0, 0, 1, far, 0, 0));
        add(w, "scale at x " + far, BAD, v -> v.scale(0, 0, 1, 1, far, 0));
        add(w, "scale at y " + far, BAD, v -> v.scale(0, 0, 1, 1, 0, far));
    }

    /** Something of everything: a TAPE, BOXES, UNITS decoded and not, FAULTS, OUTPUTS, a STORE, pictures coded, one waits. */
    private static VideoSuite rich() {
        VideoSuite v = new VideoSuite();
        Streams s = new Streams().size(2, 1);
        s.refs = 2;
        s.sets().add(s.head(5, 2).raw(1, 2, 3, 4, 5, 6)).add(s.head(1, 2).at(1, 2).raw(7, 8, 9));
        s.add(new Bits().ue(9).ue(2).ue(0).u(9, 0).unit(0x21)).add(s.head(1, 0).at(2, 4).skipped(2));
        s.add(s.head(1, 2).at(3, 6).raw(1, 1, 1, 2, 2, 2)).add(s.head(1, 0).at(4, 8).skipped(2)).add(Streams.bytes(6, 1));
        s.give(v);
        v.mux();
        v.demux();
        v.decode(5);
        v.flush();
        v.decode(1);
        v.feed(1, 2, 3, 4, 5);
        int[] set = {0, 1, 1, 1, 6, 1, 7, 2, 8, 1, 9, 77};
        for (int i = 0; i < set.length; i += 2) {
            v.setting(set[i], set[i + 1]);
        }
        v.open();
        v.paint(2, 90, 45, 3);
        v.encode();
        v.encode();
        return v;
    }

    /** Much of what can be asked, and what follows. */
    private static String told(VideoSuite v) {
        StringBuilder t = new StringBuilder();
        for (int i = 0; i < 15; i++) {
            t.append(v.count(i)).append(' ');
        }
        for (int i = 0; i < 18; i++) {
            t.append(v.slice(i)).append(' ');
        }
        for (int i = 0; i < 3; i++) {
            for (int what = 0; what < 7; what++) {
                int k = i;
                int w = what;
                t.append(Check.told(() -> v.stored(k, w))).append(' ').append(Check.told(() -> v.picture(k, w))).append(' ');
                t.append(Check.told(() -> v.block(k, w))).append(' ').append(Check.told(() -> v.coded(k, w))).append(' ');
            }
            int k = i;
            t.append(Check.told(() -> v.entry(0, k))).append(' ').append(Check.told(() -> v.fault(0, k))).append(' ');
            t.append(Check.told(() -> v.edge(1, k, 0))).append(' ').append(Check.told(() -> v.box(6, k))).append(' ');
        }
        for (int i = 0; i < 24; i++) {
            t.append(v.setting(i, i == 0 || i == 1 || i == 7 ? 2 : i > 2 && i < 6 ? 30 : 0)).append(' ');
        }
        t.append(v.repair(2)).append(' ').append(v.paint(3, 1, 0, 0)).append(' ').append(v.encode()).append(' ');
        t.append(v.finish()).append(' ').append(v.count(13)).append(' ').append(v.decode(1)).append(' ');
        for (int k = 0; k < v.count(1); k++) {
            t.append(v.unitByte(k, v.unit(k, 2) - 1)).append(' ');
        }
        t.append(v.decode(400)).append(' ').append(v.flush()).append(' ');
        for (int k = 0; k < v.count(3); k++) {
            t.append(v.sum(k, 0)).append(' ');
        }
        t.append(v.split(0)).append(' ').append(v.take()).append(' ').append(v.decode(400)).append(' ').append(v.flush());
        return t.append(' ').append(v.sum(1, 1)).toString();
    }

    private static String plain;

    private static void nothingChanges(Wrong w) {
        plain = plain == null ? told(rich()) : plain;
        VideoSuite v = rich();
        String thrown = "nothing";
        try {
            w.call.answer(v);
        } catch (RuntimeException e) {
            thrown = e.getClass().getName();
        }
        Check.due(w.what + " threw " + thrown + ", due is " + w.due.getName(), thrown.equals(w.due.getName()) ? 1 : 0, 1);
        String then = told(v);
        Check.due(w.what + " changed something", then.equals(plain) ? 0 : 1, 0);
    }

    private static String units(VideoSuite v) {
        StringBuilder t = new StringBuilder();
        for (int k = 0; k < v.count(1); k++) {
            t.append(v.unit(k, 2)).append(':').append(v.unit(k, 5)).append(' ');
        }
        for (int i = 1; i < 15; i++) {
            t.append(i == 12 ? 0 : v.count(i)).append(' ');
        }
        return t.toString();
    }

    /** The TAPE is empty, nothing else has changed. */
    private static void splitRefused() {
        for (int way = 1; way < 5; way++) {
            VideoSuite v = rich();
            String before = units(v);
            int k = way;
            byte[] tape = new byte[way + 8];
            tape[way - 1] = 9;
            v.end(0);
            Streams.feed(v, tape);
            Check.refused("split(" + way + ")", () -> v.split(k));
            Check.due("split(" + way + ") empties the TAPE", v.count(0), 0);
            Check.due("split(" + way + ") leaves the STREAM", units(v).equals(before) ? 1 : 0, 1);
            Check.due("split(" + way + ") leaves the BOXES", v.count(12), 7);
            Check.due("split(" + way + ") leaves the decoder", v.decode(400), 3);
        }
    }

    private static void demuxRefused() {
        VideoSuite v = rich();
        String before = units(v);
        Check.refused("demux", v::demux);
        Check.due("demux empties the TAPE", v.count(0), 0);
        Check.due("demux leaves the STREAM", units(v).equals(before) ? 1 : 0, 1);
        Check.due("demux: BOXES as far as it came", v.count(12), 0);
        Check.due("demux leaves the decoder", v.decode(400), 3);
    }

    private static void beforeOpen() {
        VideoSuite v = new VideoSuite();
        for (int i = 0; i < 2; i++) {
            Check.refused("paint", () -> v.paint(0, 1, 1, 1));
            Check.bad("paint, bad before REFUSED", () -> v.paint(5, 1, 1, 1));
            Check.refused("encode", v::encode);
            Check.refused("finish", v::finish);
            Check.missing("made", () -> v.made(0));
            Check.missing("coded", () -> v.coded(0, 0));
            Check.bad("coded, bad before missing", () -> v.coded(0, 7));
            for (int what = 0; what < 15; what++) {
                Check.due("nothing has come of it, count(" + what + ")", v.count(what), 0);
            }
            // a CLASH is no OPEN
            v.setting(21, 1);
            Check.due("CLASH", v.open(), 21);
        }
        v.setting(21, 0);
        Check.due("OPEN", v.open(), -1);
        Check.due("paint", v.paint(0, 0, 0, 0), 0);
    }
}
