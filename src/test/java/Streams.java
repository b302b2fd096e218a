import java.io.ByteArrayOutputStream;

/** Makes SETS, HEADERS and BLOCKS by hand. */
final class Streams {
    /** What the SEQUENCE tells. */
    int frameBits = 4;
    int kind;
    int lowBits = 4;
    int same = 1;
    int apart;
    int below;
    int[] turns = {};
    int refs = 1;
    int gaps;
    int width = 1;
    int height = 1;
    int[] crop = {};
    /** What the PARAMETERS tell. */
    int coding;
    int pair;
    int n0 = 1;
    int n1 = 1;
    int weighted;
    int both;
    int step = 26;
    int apartStep;
    int edges = 1;
    int own;

    final ByteArrayOutputStream bytes = new ByteArrayOutputStream();

    Streams size(int wide, int high) {
        width = wide;
        height = high;
        return this;
    }

    byte[] sequence(int id) {
        Bits b = new Bits().u(8, 77).u(8, 0).u(8, 40).ue(id).ue(frameBits - 4).ue(kind);
        if (kind == 0) {
            b.ue(lowBits - 4);
        } else if (kind == 1) {
            b.u(1, same).se(apart).se(below).ue(turns.length);
            for (int t : turns) {
                b.se(t);
            }
        }
        b.ue(refs).u(1, gaps).ue(width - 1).ue(height - 1).u(1, 1).u(1, 1);
        b.u(1, crop.length > 0 ? 1 : 0);
        for (int c : crop) {
            b.ue(c);
        }
        return b.u(1, 0).unit(0x67);
    }

    byte[] parameters(int id, int sequence) {
        return new Bits().ue(id).ue(sequence).u(1, coding).u(1, pair).ue(0).ue(n0 - 1).ue(n1 - 1).u(1, weighted)
                .u(2, both).se(step - 26).se(0).se(apartStep).u(1, edges).u(1, own).u(1, 0).unit(0x68);
    }

    /** The UNIT behind 0 0 0 1. */
    Streams add(byte[] unit) {
        bytes.write(0);
        bytes.write(0);
        bytes.write(0);
        bytes.write(1);
        bytes.write(unit, 0, unit.length);
        return this;
    }

    Streams sets() {
        return add(sequence(0)).add(parameters(0, 0));
    }

    /** All that was added becomes the STREAM of an object. */
    int give(VideoSuite v) {
        feed(v, bytes.toByteArray());
        return v.split(0);
    }

    VideoSuite object() {
        VideoSuite v = new VideoSuite();
        give(v);
        return v;
    }

    static void feed(VideoSuite v, byte[] d) {
        int had = v.count(0);
        for (int i = 0; i < d.length; i += 20) {
            int[] w = new int[5];
            for (int j = 0; j < 20; j++) {
                w[j / 4] = w[j / 4] << 8 | (i + j < d.length ? d[i + j] & 255 : 0);
            }
            v.feed(w[0], w[1], w[2], w[3], w[4]);
        }
        v.end(had + d.length);
    }

    static byte[] bytes(int... values) {
        byte[] b = new byte[values.length];
        for (int i = 0; i < b.length; i++) {
            b[i] = (byte) values[i];
        }
        return b;
    }

    /** A HEADER, with what this SEQUENCE and these PARAMETERS want; DATA may follow. */
    Head head(int type, int sort) {
        return new Head(this, type, sort);
    }

    static final class Head {
        private final Streams s;
        private final int type;
        private final int sort;
        int first;
        int pars;
        int frame;
        int ownId;
        int low;
        int d0;
        int d1;
        int space = 1;
        int[] n = {};
        int[][] moves = {{}, {}};
        int[] weights = {};
        int ref = 1;
        int drop;
        int isLong;
        int[] ops = {};
        int more;
        int off;
        int a;
        int b;

        Head(Streams streams, int newType, int newSort) {
            s = streams;
            type = newType;
            sort = newSort;
        }

        Head at(int newFrame, int newLow) {
            frame = newFrame;
            low = newLow;
            return this;
        }

        Head from(int mb) {
            first = mb;
            return this;
        }

        Head ref(int r) {
            ref = r;
            return this;
        }

        Head ops(int... list) {
            ops = list;
            return this;
        }

        /** op, x pairs. */
        Head moves(int list, int... list0) {
            moves[list] = list0;
            return this;
        }

        Head n(int... numbers) {
            n = numbers;
            return this;
        }

        Head off(int o, int newA, int newB) {
            off = o;
            a = newA;
            b = newB;
            return this;
        }

        int lead() {
            return ref << 5 | type;
        }

        Bits bits() {
            Bits h = new Bits().ue(first).ue(sort).ue(pars).u(s.frameBits, frame);
            if (type == 5) {
                h.ue(ownId);
            }
            if (s.kind == 0) {
                h.u(s.lowBits, low);
                if (s.pair == 1) {
                    h.se(d0);
                }
            } else if (s.kind == 1 && s.same == 0) {
                h.se(d0);
                if (s.pair == 1) {
                    h.se(d1);
                }
            }
            if (sort == 1) {
                h.u(1, space);
            }
            if (sort != 2) {
                lists(h);
            }
            if (ref != 0) {
                marks(h);
            }
            if (s.coding == 1 && sort != 2) {
                h.ue(0);
            }
            h.se(more);
            if (s.edges == 1) {
                h.ue(off);
                if (off != 1) {
                    h.se(a).se(b);
                }
            }
            return h;
        }

        private void lists(Bits h) {
            h.u(1, n.length > 0 ? 1 : 0);
            for (int k : n) {
                h.ue(k - 1);
            }
            for (int list = 0; list <= sort; list++) {
                h.u(1, moves[list].length > 0 ? 1 : 0);
                for (int v : moves[list]) {
                    h.ue(v);
                }
                if (moves[list].length > 0) {
                    h.ue(3);
                }
            }
            if (weights.length > 0) {
                h.ue(weights[0]).ue(weights[1]);
                for (int i = 2; i < weights.length; i += 2) {
                    h.u(1, 1).se(weights[i]).se(weights[i + 1]).u(1, 0);
                }
            }
        }

        private void marks(Bits h) {
            if (type == 5) {
                h.u(1, drop).u(1, isLong);
                return;
            }
            h.u(1, ops.length > 0 ? 1 : 0);
            for (int v : ops) {
                h.ue(v);
            }
            if (ops.length > 0) {
                h.ue(0);
            }
        }

        /** This HEADER, and DATA behind it by this coding. */
        Data data() {
            return new Data(bits(), s.coding == 1, sort == 2, lead());
        }

        byte[] unit(Bits data) {
            return data.unit(lead());
        }

        /** The whole SLICE: its BLOCKS are RAW, each of a luma, a first and a second chroma sample. */
        byte[] raw(int... samples) {
            Bits d = bits();
            for (int i = 0; i < samples.length; i += 3) {
                if (sort != 2) {
                    d.ue(0);
                }
                flat(d.ue(sort == 2 ? 25 : sort == 0 ? 30 : 48), samples[i], samples[i + 1], samples[i + 2]);
            }
            return unit(d);
        }

        /** The whole SLICE: so many SKIPPED ones. */
        byte[] skipped(int n0) {
            return unit(bits().ue(n0));
        }
    }

    static Bits flat(Bits d, int luma, int u, int v) {
        d.align(0);
        for (int i = 0; i < 384; i++) {
            d.u(8, i < 256 ? luma : i < 320 ? u : v);
        }
        return d;
    }
}
