import java.io.ByteArrayOutputStream;

/** Promises 34 to 37: files of BOXES, and the BUFFER. */
public final class FileTest {
    public static void main(String[] args) {
        muxed();
        muxedBytes();
        muxRefused();
        demuxed();
        otherFiles();
        demuxRefused();
        boxesTold();
        manyBoxes();
        bufferTold();
        Check.end();
    }

    private static VideoSuite units(int... sizes) {
        ByteArrayOutputStream b = new ByteArrayOutputStream();
        for (int i = 0; i < sizes.length; i++) {
            b.write(sizes[i] >> 8);
            b.write(sizes[i]);
            for (int k = 0; k < sizes[i]; k++) {
                b.write(i == 0 ? 0x65 : i + k);
            }
        }
        VideoSuite v = new VideoSuite();
        Streams.feed(v, b.toByteArray());
        v.split(2);
        return v;
    }

    private static byte[] box(String name, byte[]... parts) {
        ByteArrayOutputStream b = new ByteArrayOutputStream();
        int n = 8;
        for (byte[] p : parts) {
            n += p.length;
        }
        byte[] head = {(byte) (n >> 24), (byte) (n >> 16), (byte) (n >> 8), (byte) n};
        b.write(head, 0, 4);
        for (char c : name.toCharArray()) {
            b.write(c);
        }
        for (byte[] p : parts) {
            b.write(p, 0, p.length);
        }
        return b.toByteArray();
    }

    private static byte[] ints(int... values) {
        byte[] b = new byte[4 * values.length];
        for (int i = 0; i < b.length; i++) {
            b[i] = (byte) (values[i / 4] >> (24 - 8 * (i % 4)));
        }
        return b;
    }

    private static byte[] join(byte[]... parts) {
        ByteArrayOutputStream b = new ByteArrayOutputStream();
        for (byte[] p : parts) {
            b.write(p, 0, p.length);
        }
        return b.toByteArray();
    }

    private static void muxed() {
        VideoSuite v = units(3, 1, 2);
        byte[] stsz = box("stsz", ints(0, 0, 3, 7, 5, 6));
        byte[] stco = box("stco", ints(0, 1, 24 + 8 + 108 + 8 + 32 + 20 + 8));
        byte[] due = join(box("ftyp", "isom".getBytes(), ints(0x200), "isomavc1".getBytes()),
                box("moov", box("mvhd", new byte[100]), box("trak", stsz, stco)),
                box("mdat", ints(3), new byte[] {0x65, 0x65, 0x65}, ints(1), new byte[] {1}, ints(2), new byte[] {2, 3}));
        Check.due("P34 mux", v.mux(), due.length);
        Check.due("P34 count(0)", v.count(0), due.length);
        told("P34", v, due);
        Check.due("P34 the STREAM stays", v.count(1), 3);
        VideoSuite e = new VideoSuite();
        Check.due("P34 no UNITS", e.mux(), 196);
        Check.due("P35 no UNITS", e.demux(), 0);
    }

    /** No call tells the TAPE's bytes; its BOXES and UNITS do. */
    private static void told(String what, VideoSuite v, byte[] due) {
        VideoSuite w = new VideoSuite();
        Streams.feed(w, due);
        Check.due(what + " demux", v.demux(), w.demux());
        Check.due(what + " BOXES", v.count(12), w.count(12));
        for (int k = 0; k < w.count(12); k++) {
            for (int i = 0; i < 4; i++) {
                Check.due(what + " box(" + k + ", " + i + ")", v.box(k, i), w.box(k, i));
            }
        }
        for (int k = 0; k < w.count(1); k++) {
            for (int i = 0; i < w.unit(k, 2); i++) {
                Check.due(what + " unitByte(" + k + ", " + i + ")", v.unitByte(k, i), w.unitByte(k, i));
            }
        }
        int[] names = {0x66747970, 0x6d6f6f76, 0x6d766864, 0x7472616b, 0x7374737a, 0x7374636f, 0x6d646174};
        int[] places = {0, 24, 32, 140, 148, 180, 200};
        int[] lengths = {24, 176, 108, 60, 32, 20, 26};
        int[] inside = {-1, -1, 1, 1, 3, 3, -1};
        Check.due("P36 BOXES", v.count(12), 7);
        for (int k = 0; k < 7; k++) {
            Check.due("P36 letters of " + k, v.box(k, 0), names[k]);
            Check.due("P36 place of " + k, v.box(k, 1), places[k]);
            Check.due("P36 length of " + k, v.box(k, 2), lengths[k]);
            Check.due("P36 inside, " + k, v.box(k, 3), inside[k]);
        }
    }

    /** The bytes of a file, as SPLIT shows them by each way. */
    private static void muxedBytes() {
        for (int n = 0; n < 5; n++) {
            int[] sizes = new int[n];
            for (int i = 0; i < n; i++) {
                sizes[i] = 3 + 90 * i;
            }
            byte[] lengths = new byte[0];
            byte[] media = new byte[0];
            for (int i = 0; i < n; i++) {
                byte[] unit = new byte[sizes[i]];
                for (int k = 0; k < sizes[i]; k++) {
                    unit[k] = (byte) (i == 0 ? 0x65 : i + k);
                }
                lengths = join(lengths, ints(4 + sizes[i]));
                media = join(media, ints(sizes[i]), unit);
            }
            byte[] due = join(box("ftyp", "isom".getBytes(), new byte[] {0, 0, 2, 0}, "isomavc1".getBytes()),
                    box("moov", box("mvhd", new byte[100]), box("trak", box("stsz", new byte[8], ints(n), lengths),
                            box("stco", new byte[4], ints(1, 24 + 8 + 108 + 8 + 20 + 4 * n + 20 + 8)))), box("mdat", media));
            for (int way = 0; way < 5; way++) {
                VideoSuite v = units(sizes);
                Check.due("P34 length of " + n, v.mux(), due.length);
                VideoSuite w = new VideoSuite();
                Streams.feed(w, due);
                int k = way;
                // what lies before a place is cut off by lengths that lead there, so each way shows other bytes
                long got = Check.told(() -> v.split(k));
                Check.due("P34 SPLIT by way " + way + " of " + n, got, Check.told(() -> w.split(k)));
                for (int u = 0; u < got; u++) {
                    int unit = u;
                    int bytes = w.unit(u, 2);
                    Check.due("P34 way " + way + ", bytes of UNIT " + u, v.unit(u, 2), bytes);
                    for (int i = 0; i < bytes && i < 120; i++) {
                        int at = i;
                        Check.answers("P34 way " + way + ", byte " + i + " of UNIT " + u, w.unitByte(u, i),
                                () -> v.unitByte(unit, at));
                    }
                }
            }
        }
    }

    private static void muxRefused() {
        VideoSuite v = new VideoSuite();
        int[] set = {0, 8, 1, 3, 11, 4, 17, 1};
        for (int i = 0; i < set.length; i += 2) {
            v.setting(set[i], set[i + 1]);
        }
        v.open();
        for (int i = 0; i < 7; i++) {
            v.encode();
        }
        // they fit as UNITS, but not with the lengths of a file
        int units = v.take();
        Check.due("P32 units", units, 2 + 7 * 6);
        Check.due("P34 a file would be too long", v.count(9) + 4 * units + 196 > 65536 ? 1 : 0, 1);
        v.feed(1, 2, 3, 4, 5);
        Check.refused("P34 above 65536", v::mux);
        Check.due("P34 the TAPE stays", v.count(0), 20);
        Check.due("P34 the STREAM stays", v.count(1), units);
        v.lose(units - 1);
        v.lose(units - 2);
        Check.due("P34 it fits", v.mux() > 60000 ? 1 : 0, 1);
        Check.due("P35 demux", v.demux(), units - 2);
    }

    private static void demuxed() {
        VideoSuite v = units(5, 300, 1);
        v.decode(2);
        v.repair(1);
        int n = v.mux();
        Check.due("P35 demux", v.demux(), 3);
        Check.due("P35 the TAPE is empty", v.count(0), 0);
        Check.due("P35 none is decoded", v.count(2), 0);
        Check.due("P35 the way of REPAIR stays", v.repair(0), 1);
        int[] sizes = {5, 300, 1};
        for (int k = 0; k < 3; k++) {
            Check.due("P35 unit(" + k + ", 2)", v.unit(k, 2), sizes[k]);
            for (int i = 0; i < sizes[k]; i += 29) {
                Check.due("P35 unitByte(" + k + ", " + i + ")", v.unitByte(k, i), k == 0 ? 0x65 : k + i & 255);
            }
        }
        Check.due("P34 the same again", v.mux(), n);
    }

    private static VideoSuite tape(byte[] file) {
        VideoSuite v = new VideoSuite();
        Streams.feed(v, file);
        return v;
    }

    private static int read(byte[] file) {
        VideoSuite v = tape(file);
        v.repair(3);
        int n = (int) Check.told(v::demux);
        Check.due("P35 the TAPE is empty in any case", v.count(0), 0);
        return n;
    }

    private static byte[] stsz(int... lengths) {
        return box("stsz", ints(-1, 99, lengths.length), ints(lengths));
    }

    private static byte[] stco(int place) {
        return box("stco", ints(7, 8, place), ints(9));
    }

    private static void otherFiles() {
        byte[] media = join(ints(1), new byte[] {7}, ints(2), new byte[] {8, 9}, ints(0, 1), new byte[] {5});
        byte[] at8 = box("mdat", media);
        Check.due("P35 at the top", read(join(at8, stsz(5, 6, 9), stco(8))), 3);
        Check.due("P35 a piece of more UNITS", read(join(at8, stsz(11, 9), stco(8))), 3);
        Check.due("P35 the first piece alone", read(join(at8, stsz(5), stco(8))), 1);
        Check.due("P35 an empty piece", read(join(at8, stsz(5, 0, 6), stco(8))), 2);
        Check.due("P35 from a later place", read(join(at8, stsz(6), stco(13))), 1);
        Check.due("P35 in moov", read(join(at8, box("moov", stsz(5), stco(8)))), 1);
        Check.due("P35 in trak", read(join(at8, box("moov", box("trak", stco(8), stsz(5))))), 1);
        Check.due("P35 the first of two", read(join(at8, stsz(5), stsz(11), stco(8), stco(13))), 1);
        Check.due("P35 not in a trak at the top", read(join(at8, box("trak", stsz(5)), stsz(11), stco(8))), 2);
        Check.due("P35 not in a moov below", read(join(at8, box("moov", box("moov", stsz(5))), stsz(11), stco(8))), 2);
        Check.due("P35 not in a trak below", read(join(at8,
                box("moov", box("trak", box("trak", stsz(5)))), stsz(11), stco(8))), 2);
        Check.due("P35 not in another BOX", read(join(at8, box("mdia", stsz(5)), stsz(11), stco(8))), 2);
        Check.due("P35 an empty moov", read(join(box("moov"), at8, stsz(5), stco(16))), 1);
        Check.due("P35 no pieces", read(join(stsz(), stco(99999))), 0);
        Check.due("P35 bytes behind the lengths", read(join(at8, box("stsz", ints(0, 0, 1, 5, 77, 78)), stco(8))), 1);
    }

    private static void demuxRefused() {
        int refused = -1000003;
        byte[] at8 = box("mdat", ints(1), new byte[] {7}, ints(2), new byte[] {8, 9});
        Check.due("P35 nothing", read(new byte[0]), refused);
        Check.due("P35 less than 8 bytes", read(join(at8, stsz(5), stco(8), new byte[7])), refused);
        Check.due("P35 a length of 7", read(join(at8, stsz(5), stco(8), ints(7, 0x61616161))), refused);
        Check.due("P35 a length of 0", read(join(at8, stsz(5), stco(8), ints(0, 0x61616161))), refused);
        Check.due("P35 beyond the TAPE", read(join(at8, stsz(5), stco(8), ints(9, 0x61616161))), refused);
        Check.due("P35 a length without sign", read(join(at8, stsz(5), stco(8), ints(-1, 0x61616161))), refused);
        byte[] moov = box("moov", stsz(5), stco(8), ints(9, 0x61616161));
        Check.due("P35 beyond its moov", read(join(at8, moov, new byte[1])), refused);
        Check.due("P35 less than 8 bytes in its moov", read(join(at8, box("moov", stsz(5), stco(8), ints(8)))), refused);
        Check.due("P35 no stsz", read(join(at8, stco(8))), refused);
        Check.due("P35 no stco", read(join(at8, stsz(5))), refused);
        Check.due("P35 a short stsz", read(join(at8, box("stsz", ints(0, 0)), stsz(5), stco(8))), refused);
        Check.due("P35 a short stco", read(join(at8, stsz(5), box("stco", ints(0, 1)), stco(8))), refused);
        byte[] three = new byte[3];
        Check.due("P35 a stsz of 11", read(join(at8, box("stsz", ints(0, 0), three), stco(8))), refused);
        Check.due("P35 a stsz of 12", read(join(at8, box("stsz", ints(0, 0, 0)), stco(8))), 0);
        Check.due("P35 a stco of 11", read(join(at8, stsz(5), box("stco", ints(0, 1), three))), refused);
        Check.due("P35 a stco of 11, no pieces", read(join(at8, stsz(), box("stco", ints(0, 1), three))), refused);
        Check.due("P35 a stco of 12, no pieces", read(join(at8, stsz(), box("stco", ints(0, 1, 0)))), 0);
        Check.due("P35 a stco of 12", read(join(at8, stsz(5), box("stco", ints(0, 1, 8)))), 1);
        Check.due("P35 a stsz of 15 with one", read(join(at8, box("stsz", ints(0, 0, 1), three), stco(8))), refused);
        Check.due("P35 a stsz of 16 with one", read(join(at8, box("stsz", ints(0, 0, 1, 5)), stco(8))), 1);
        Check.due("P35 a stsz of 19 with two", read(join(at8, box("stsz", ints(0, 0, 2, 5), three), stco(8))), refused);
        Check.due("P35 a stsz of 20 with two", read(join(at8, box("stsz", ints(0, 0, 2, 5, 6)), stco(8))), 2);
        Check.due("P35 lengths missing", read(join(at8, box("stsz", ints(0, 0, 2, 5)), stco(8))), refused);
        Check.due("P35 how many without sign", read(join(at8, box("stsz", ints(0, 0, -1, 5)), stco(8))), refused);
        Check.due("P35 how many, times 4", read(join(at8, box("stsz", ints(0, 0, 1 << 30, 5)), stco(8))), refused);
        Check.due("P35 a piece beyond the TAPE", read(join(at8, stsz(500), stco(8))), refused);
        Check.due("P35 a place beyond the TAPE", read(join(at8, stsz(0), stco(5000))), refused);
        Check.due("P35 a place without sign", read(join(at8, stsz(5), stco(-8))), refused);
        Check.due("P35 a length without sign", read(join(at8, stsz(-1), stco(8))), refused);
        Check.due("P35 a broken piece", read(join(at8, stsz(6), stco(8))), refused);
        Check.due("P35 half a length", read(join(at8, stsz(3), stco(8))), refused);
        ByteArrayOutputStream many = new ByteArrayOutputStream();
        for (int i = 0; i < 401; i++) {
            many.write(0);
            many.write(0);
            many.write(0);
            many.write(1);
            many.write(9);
        }
        byte[] long401 = box("mdat", many.toByteArray());
        Check.due("P35 400 UNITS", read(join(long401, stsz(2000), stco(8))), 400);
        Check.due("P35 401 UNITS", read(join(long401, stsz(2005), stco(8))), refused);
        VideoSuite v = units(3, 1);
        v.decode(1);
        Streams.feed(v, join(at8, stsz(5)));
        Check.refused("P35 no stco", v::demux);
        Check.due("P35 the STREAM stays", v.count(1), 2);
        Check.due("P35 the decoder stays", v.count(2), 1);
        Check.due("P36 as far as it came", v.count(12), 2);
    }

    private static void boxesTold() {
        VideoSuite v = tape(join(box("abcd", new byte[3]), box("moov", box("trak", box("xyzw"))), ints(3, 4)));
        Check.refused("P35 broken", v::demux);
        Check.due("P36 as far as it came", v.count(12), 4);
        int[][] due = {{0x61626364, 0, 11, -1}, {0x6d6f6f76, 11, 24, -1}, {0x7472616b, 19, 16, 1},
            {0x78797a77, 27, 8, 2}};
        for (int k = 0; k < 4; k++) {
            for (int i = 0; i < 4; i++) {
                Check.due("P36 box(" + k + ", " + i + ")", v.box(k, i), due[k][i]);
            }
        }
        Check.bad("P36 what 4", () -> v.box(0, 4));
        Check.bad("P36 what -1", () -> v.box(0, -1));
        Check.bad("P36 bad before missing", () -> v.box(9, 4));
        Check.missing("P36 BOX 4", () -> v.box(4, 0));
        Check.missing("P36 BOX -1", () -> v.box(-1, 0));
        Check.refused("P35 an empty TAPE", v::demux);
        Check.due("P36 of the latest demux", v.count(12), 0);
    }

    private static void manyBoxes() {
        byte[][] parts = new byte[62][];
        for (int i = 0; i < 60; i++) {
            parts[i] = box("free");
        }
        parts[60] = box("moov", stsz(5), stco(8));
        parts[61] = join(stsz(), stco(0));
        VideoSuite v = tape(join(parts));
        Check.due("P36 the 61st is not opened, others met still", v.demux(), 0);
        Check.due("P36 60 are kept", v.count(12), 60);
        Check.missing("P36 BOX 60", () -> v.box(60, 0));
        parts[59] = new byte[0];
        VideoSuite w = tape(join(parts));
        Check.refused("P36 the 60th is opened", w::demux);
        Check.due("P36 60 are kept", w.count(12), 60);
        Check.due("P36 the 60th", w.box(59, 0), 0x6d6f6f76);
    }

    private static void bufferTold() {
        VideoSuite v = units(10, 1, 1);
        v.flip(1, 0);
        // TYPE 5 of 10 bytes, TYPE 1 with the highest bit of 1 byte, TYPE 2
        Check.due("P37 just enough", v.buffer(8, 80), -1);
        Check.due("P37 too little", v.buffer(1000, 79), 0);
        Check.due("P37 the next one", v.buffer(7, 80), 1);
        Check.due("P37 size at most", v.buffer(1 << 30, 80), -1);
        Check.due("P37 nothing", v.buffer(0, 0), 0);
        // TYPE 5 and 1 by turns, of 10 and 5 bytes
        VideoSuite w = units(10, 5, 10, 5, 10);
        for (int k = 1; k < 5; k++) {
            for (int bit = 0; bit < 8; bit++) {
                int due = (k % 2 == 0 ? 0x65 : 0x21) >> 7 - bit & 1;
                if (w.flip(k, bit) != due) {
                    w.flip(k, bit);
                }
            }
        }
        VideoSuite s = units(5, 13);
        Check.due("P5 TYPE", s.unit(1, 0), 1);
        Check.due("P37 size at most: 104 of 100", s.buffer(1000, 100), 1);
        Check.due("P37 size at most: 104 of 104", s.buffer(1000, 104), -1);
        // 100: 20, 50 at 30 more, 10, 40, less than 80
        Check.due("P37 rate comes in between", w.buffer(30, 100), 2);
        Check.due("P37 just enough each time", w.buffer(60, 80), -1);
        // 80: 0, 59, 19, 78, less than 80
        Check.due("P37 one less each time", w.buffer(59, 80), 2);
        Check.due("P37 just enough at last", w.buffer(50, 120), -1);
        Check.due("P37 one less at last", w.buffer(49, 120), 4);
        Check.due("P37 most", v.buffer(1 << 30, 1 << 30), -1);
        othersInBuffer();
        Check.bad("P37 rate -1", () -> v.buffer(-1, 0));
        Check.bad("P37 size -1", () -> v.buffer(0, -1));
        Check.bad("P37 rate above", () -> v.buffer((1 << 30) + 1, 0));
        Check.bad("P37 size above", () -> v.buffer(0, (1 << 30) + 1));
    }

    /** UNITS of other TYPES take nothing, and bring no rate. */
    private static void othersInBuffer() {
        for (int lead : new int[] {0x67, 0x68, 0x06, 0x00, 0x02, 0x1f, 0xe7}) {
            VideoSuite v = new VideoSuite();
            Streams.feed(v, Streams.bytes(0, 0, 1, lead, 1, 1, 1, 1, 1, 1, 0, 0, 1, 0x65, 1, 0, 0, 1, lead, 1, 0, 0, 1, 0x21,
                    1));
            v.split(0);
            Check.due("P37 bytes of " + lead, v.buffer(16, 16), -1);
            Check.due("P37 no rate by " + lead, v.buffer(15, 16), 3);
            Check.due("P37 no rate by " + lead, v.buffer(8, 16), 3);
            Check.due("P37 the first that it can't take, beside " + lead, v.buffer(0, 15), 1);
        }
    }
}
