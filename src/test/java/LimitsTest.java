/** Lengths to the byte: the TAPE and the STREAM of 65536, MADE of 60000, files of 65536, 400 UNITS. */
public final class LimitsTest {
    private static final int MOST = 65536;

    public static void main(String[] args) {
        tape();
        unitsByLengths();
        unitsOfFiles();
        madeTaken();
        madeRefused();
        files();
        effort();
        Check.end();
    }

    private static VideoSuite open(int... settings) {
        VideoSuite v = new VideoSuite();
        for (int i = 0; i < settings.length; i += 2) {
            v.setting(settings[i], settings[i + 1]);
        }
        v.open();
        return v;
    }

    /**
     * RAW pictures of 8 by 4 BLOCKS, all bytes of which are 100 but for squares of 0: where two 0 come before a 0
     * a byte 3 is put in, 24 for a square. So many squares are in all of them; the last picture has more, and rows
     * of three 0, one byte 3 each. Chroma is as told.
     */
    private static VideoSuite raw(int pictures, int chroma, int squares, int more, int rows) {
        VideoSuite v = open(0, 8, 1, 4, 17, 1);
        v.paint(0, 100, chroma, chroma);
        for (int i = 0; i < squares; i++) {
            v.paint(4, i % 7 * 16 + 4, i / 7 * 8, 0);
        }
        for (int i = 1; i < pictures; i++) {
            v.encode();
        }
        for (int i = squares; i < squares + more; i++) {
            v.paint(4, i % 7 * 16 + 4, i / 7 * 8, 0);
        }
        // at the right end: a square of three columns, of which some rows are covered again
        for (int i = 0; 8 * i < rows; i++) {
            v.paint(4, 125, 16 * i, 0);
            if (rows - 8 * i < 8) {
                v.paint(4, 125, 16 * i + rows - 8 * i, 100);
            }
        }
        v.encode();
        return v;
    }

    /** As many bytes MADE as told. */
    private static VideoSuite made(int pictures, int bytes) {
        int chroma = pictures == 5 ? 100 : 0;
        int base = raw(pictures, chroma, 0, 0, 0).count(9);
        int squares = (bytes - base) / (24 * pictures);
        int rest = (bytes - base) % (24 * pictures);
        VideoSuite v = raw(pictures, chroma, squares, rest / 24, rest % 24);
        Check.due("as many bytes as told", v.count(9), bytes);
        return v;
    }

    private static void tape() {
        VideoSuite v = raw(5, 100, 0, 0, 0);
        v.take();
        int n = v.mux();
        while (n + 20 <= MOST) {
            n = v.feed(1, 2, 3, 4, 5);
        }
        v.end(MOST - 20);
        Check.due("P2 65536", v.feed(1, 2, 3, 4, 5), MOST);
        Check.refused("P2 above 65536", () -> v.feed(1, 2, 3, 4, 5));
        Check.due("P2 nothing has come", v.count(0), MOST);
        v.end(MOST - 19);
        Check.refused("P2 one above 65536", () -> v.feed(1, 2, 3, 4, 5));
        Check.due("P2 nothing has come", v.count(0), MOST - 19);
    }

    private static void unitsByLengths() {
        for (int n = 399; n <= 401; n++) {
            byte[] b = new byte[2 * n + 50];
            for (int i = 0; i < n; i++) {
                b[2 * i + 25] = 1;
                b[2 * i + 26] = 9;
            }
            VideoSuite v = new VideoSuite();
            Streams.feed(v, b);
            if (n > 400) {
                Check.refused("P4 401 by lengths", () -> v.split(1));
            } else {
                Check.due("P4 lengths of 0 are no UNITS", v.split(1), n);
                Check.due("P6 the last byte", v.unitByte(n - 1, 0), 9);
            }
        }
    }

    private static void unitsOfFiles() {
        VideoSuite v = new VideoSuite();
        byte[] b = new byte[800];
        for (int i = 0; i < 800; i++) {
            b[i] = (byte) (i % 2 == 0 ? 1 : i / 2);
        }
        Streams.feed(v, b);
        Check.due("P4 400", v.split(1), 400);
        Check.due("P34 400 in a file", v.mux(), 196 + 9 * 400);
        Check.due("P35 400 of a file", v.demux(), 400);
        Check.due("P6 the last byte", v.unitByte(399, 0), 399 & 255);
    }

    private static void madeTaken() {
        VideoSuite v = made(5, MOST);
        Check.due("P32 65536 bytes are taken", v.take(), 7);
        VideoSuite w = made(5, MOST + 1);
        Check.refused("P32 65537 are not", w::take);
        Check.due("P32 the STREAM stays", w.count(1), 0);
    }

    private static void madeRefused() {
        VideoSuite v = made(4, 59999);
        Check.due("P29 59999 bytes MADE", v.encode(), 5);
        VideoSuite w = made(4, 60000);
        Check.refused("P29 60000 bytes MADE", w::encode);
        Check.due("P29 nothing was coded", w.count(10), 4);
    }

    /** A file of n UNITS is 196 and 8 for each longer than them. */
    private static void files() {
        for (int more = -1; more < 2; more++) {
            // behind 0 0 0 1 each is MADE, 4 for each
            VideoSuite v = made(5, MOST + more - 196 - 8 * 7 + 4 * 7);
            v.take();
            if (more > 0) {
                Check.refused("P34 a file of 65537", v::mux);
                Check.due("P34 the TAPE stays", v.count(0), 0);
            } else {
                Check.due("P34 a file", v.mux(), MOST + more);
                Check.due("P35 it is read again", v.demux(), 7);
                v.decode(400);
                Check.due("P24 no FAULTS", v.count(4), 0);
                Check.due("P12 all are there", v.flush(), 5);
            }
        }
    }

    /** EFFORT to the BLOCK: 15999 is below 16000. */
    private static void effort() {
        for (int last = 15; last <= 16; last++) {
            Streams s = new Streams().size(8, 4).sets();
            for (int i = 0; i < 124; i++) {
                s.add(s.head(5, 2).unit(s.head(5, 2).bits()));
            }
            s.size(4, 4).sets().add(s.head(5, 2).unit(s.head(5, 2).bits()));
            VideoSuite v = s.object();
            // 124 times 32 and 16, four times: 15936
            for (int i = 0; i < 4; i++) {
                Check.due("P11 decoded", v.decode(400), 129);
                v.anew();
            }
            Streams t = new Streams().size(8, 1).sets();
            for (int i = 0; i < 6; i++) {
                t.add(t.head(5, 2).unit(t.head(5, 2).bits()));
            }
            t.size(last == 15 ? 5 : 4, last == 15 ? 3 : 4).sets().add(t.head(5, 2).unit(t.head(5, 2).bits()));
            t.add(Streams.bytes(6));
            t.give(v);
            Check.due("P11 also before split", v.decode(11), 11);
            if (last == 16) {
                Check.refused("P11 EFFORT 16000", () -> v.decode(1));
                Check.due("P11 nothing was decoded", v.count(2), 11);
                v.anew();
                Check.refused("P11 EFFORT 16000 behind anew", () -> v.decode(1));
            } else {
                Check.due("P11 EFFORT 15999", v.decode(1), 1);
                Check.due("P11 nothing is left", v.decode(1), 0);
                // it is looked at before, not while the UNITS are decoded
                v.anew();
                Check.due("P11 EFFORT 15999", v.decode(400), 12);
                v.anew();
                Check.refused("P11 EFFORT above 16000", () -> v.decode(400));
                Check.bad("P11 bad before REFUSED", () -> v.decode(401));
                Check.due("P11 nothing was decoded", v.count(2), 0);
            }
        }
    }
}
