/** Promises 1 to 8: a new object, the TAPE, the STREAM and its UNITS. */
public final class StreamTest {
    public static void main(String[] args) {
        newObject();
        feedAndEnd();
        fullTape();
        splitByMarks();
        splitByLengths();
        splitRefused();
        unitsTold();
        stopAndPayload();
        loseUnits();
        loseOfSizes();
        beyondTheTape();
        flipBits();
        Check.end();
    }

    private static void newObject() {
        VideoSuite v = new VideoSuite();
        for (int what = 0; what <= 12; what++) {
            Check.due("P1 count(" + what + ")", v.count(what), 0);
        }
        Check.due("P1 count(14)", v.count(14), 0);
        int[] first = {2, 2, 0, 28, 30, 32, 0, 1, 0, 1, 2, 0, 0, 0, 0, 0, 0, 0, 0, 0, 0, 0, 1, 0};
        for (int what = 0; what < 24; what++) {
            Check.due("P1 setting(" + what + ")", v.setting(what, first[what]), first[what]);
        }
        Check.missing("P1 slice", () -> v.slice(0));
        Check.missing("P1 block", () -> v.block(0, 0));
        Check.missing("P1 edge", () -> v.edge(0, 0, 0));
        Check.missing("P1 set", () -> v.set(0, 0, 0));
        Check.missing("P1 stored", () -> v.stored(0, 0));
        Check.missing("P1 fault", () -> v.fault(0, 0));
        Check.missing("P1 element", () -> v.element(0, 0));
        Check.missing("P1 made", () -> v.made(0));
        Check.missing("P1 coded", () -> v.coded(0, 0));
        Check.missing("P1 box", () -> v.box(0, 0));
        Check.missing("P1 picture", () -> v.picture(0, 0));
        Check.due("P1 repair", v.repair(0), 0);
        Check.due("P1 flush", v.flush(), 0);
        Check.due("P1 decode", v.decode(400), 0);
        Check.due("P1 anew", v.anew(), 0);
        Check.due("P1 buffer", v.buffer(0, 0), -1);
    }

    private static void feedAndEnd() {
        VideoSuite v = new VideoSuite();
        Check.due("P2 feed", v.feed(0x00000001, 0x67010203, 0x80818283, 0xfffefdfc, 0x7f000000), 20);
        Check.due("P2 feed", v.feed(5, 6, 7, 8, 9), 40);
        Check.due("P2 count(0)", v.count(0), 40);
        Check.bad("P3 end(-1)", () -> v.end(-1));
        Check.bad("P3 end(41)", () -> v.end(41));
        Check.due("P3 count(0) stays", v.count(0), 40);
        Check.due("P3 end(40)", v.end(40), 40);
        Check.due("P3 end(17)", v.end(17), 17);
        Check.due("P3 count(0)", v.count(0), 17);
        Check.due("P4 split", v.split(0), 1);
        Check.due("P4 the TAPE is empty", v.count(0), 0);
        int[] due = {0x67, 1, 2, 3, 0x80, 0x81, 0x82, 0x83, 0xff, 0xfe, 0xfd, 0xfc, 0x7f};
        for (int i = 0; i < due.length; i++) {
            Check.due("P6 unitByte(0, " + i + ")", v.unitByte(0, i), due[i]);
        }
        Check.missing("P6 unitByte(0, 13)", () -> v.unitByte(0, 13));
        Check.missing("P6 unitByte(0, -1)", () -> v.unitByte(0, -1));
        Check.missing("P6 unitByte(1, 0)", () -> v.unitByte(1, 0));
        Check.missing("P6 unitByte(-1, 0)", () -> v.unitByte(-1, 0));
        Check.due("P3 end(0)", v.end(0), 0);
    }

    /** RAW pictures as a file: the one way to a long TAPE in few calls. */
    private static void fullTape() {
        VideoSuite v = new VideoSuite();
        v.setting(0, 8);
        v.setting(1, 4);
        v.setting(17, 1);
        v.open();
        v.paint(2, 0, 50, 3);
        for (int i = 0; i < 5; i++) {
            v.encode();
        }
        Check.due("P32 take", v.take(), 7);
        int length = v.mux();
        Check.due("P34 mux, count(0)", v.count(0), length);
        int n = length;
        for (; n + 20 <= 65536; n += 20) {
            Check.due("P2 feed", v.feed(-1, -1, -1, -1, -1), n + 20);
        }
        Check.refused("P2 feed above 65536", () -> v.feed(0, 0, 0, 0, 0));
        Check.due("P2 count(0) stays", v.count(0), n);
    }

    private static VideoSuite split(int way, int... bytes) {
        VideoSuite v = new VideoSuite();
        Streams.feed(v, Streams.bytes(bytes));
        v.split(way);
        return v;
    }

    private static void told(String what, VideoSuite v, int[]... units) {
        Check.due(what + " count(1)", v.count(1), units.length);
        for (int k = 0; k < units.length && k < v.count(1); k++) {
            Check.due(what + " unit(" + k + ", 2)", v.unit(k, 2), units[k].length);
            for (int i = 0; i < units[k].length && i < v.unit(k, 2); i++) {
                Check.due(what + " unitByte(" + k + ", " + i + ")", v.unitByte(k, i), units[k][i]);
            }
        }
    }

    private static void splitByMarks() {
        told("P4 empty", split(0));
        told("P4 no mark", split(0, 0, 0, 2, 1, 1, 1));
        told("P4 passed over", split(0, 9, 9, 0, 0, 1, 7, 0, 0, 1, 8), new int[] {7}, new int[] {8});
        told("P4 with the TAPE", split(0, 0, 0, 0, 1, 7, 0, 0), new int[] {7, 0, 0});
        told("P4 before 0 0 0", split(0, 0, 0, 1, 7, 5, 0, 0, 0, 6, 0, 0, 1, 9), new int[] {7, 5}, new int[] {9});
        told("P4 no bytes", split(0, 0, 0, 1, 0, 0, 1, 4, 0, 0, 1), new int[] {4});
        told("P4 0 0 2, 0 0 3", split(0, 0, 0, 1, 7, 0, 0, 2, 0, 0, 3), new int[] {7, 0, 0, 2, 0, 0, 3});
        told("P4 one 0 more", split(0, 0, 0, 1, 7, 0, 0, 0, 1, 8), new int[] {7}, new int[] {8});
    }

    private static void splitByLengths() {
        told("P4 way 1", split(1, 2, 7, 8, 0, 1, 9), new int[] {7, 8}, new int[] {9});
        told("P4 way 2", split(2, 0, 2, 7, 8, 0, 0, 0, 1, 9), new int[] {7, 8}, new int[] {9});
        told("P4 way 3", split(3, 0, 0, 1, 5), new int[] {5});
        told("P4 way 4", split(4, 0, 0, 0, 3, 1, 0, 2), new int[] {1, 0, 2});
        int[] long2 = new int[302];
        long2[0] = 1;
        long2[1] = 44;
        java.util.Arrays.fill(long2, 2, 302, 200);
        VideoSuite v = split(2, long2);
        Check.due("P4 the highest first", v.unit(0, 2), 300);
        told("P4 empty", split(1));
        told("P4 zeros", split(1, 0, 0, 0));
    }

    private static void splitRefused() {
        VideoSuite v = split(1, 1, 9, 1, 8);
        Streams.feed(v, Streams.bytes(2, 5));
        Check.bad("P4 split(-1)", () -> v.split(-1));
        Check.bad("P4 split(5)", () -> v.split(5));
        Check.due("P4 bad leaves the TAPE", v.count(0), 2);
        v.repair(2);
        Check.refused("P4 beyond the end", () -> v.split(1));
        Check.due("P4 the TAPE is empty in any case", v.count(0), 0);
        told("P4 the STREAM stays", v, new int[] {9}, new int[] {8});
        Streams.feed(v, Streams.bytes(0, 1, 7, 0));
        Check.refused("P4 half a length", () -> v.split(2));
        Streams.feed(v, Streams.bytes(255, 255, 255, 255, 1));
        Check.refused("P4 a length without sign", () -> v.split(4));
        int[] many = new int[802];
        java.util.Arrays.fill(many, 1);
        Streams.feed(v, Streams.bytes(many));
        Check.refused("P4 401 by lengths", () -> v.split(1));
        v.feed(0x01090109, 0, 0, 0, 0);
        v.end(4);
        Check.due("P4 split anew", v.split(1), 2);
        Check.due("P4 the way of REPAIR stays", v.repair(0), 2);
        VideoSuite w = new VideoSuite();
        byte[] marks = new byte[4 * 400];
        for (int i = 0; i < 400; i++) {
            marks[4 * i + 2] = 1;
            marks[4 * i + 3] = 9;
        }
        Streams.feed(w, marks);
        Check.due("P4 400 by marks", w.split(0), 400);
        Streams.feed(w, marks);
        Streams.feed(w, Streams.bytes(0, 0, 1, 9));
        Check.refused("P4 401 by marks", () -> w.split(0));
        Check.due("P4 the STREAM stays", w.count(1), 400);
    }

    private static void unitsTold() {
        VideoSuite v = split(1, 3, 0x65, 1, 0x80, 2, 0xe9, 0, 1, 0x1f);
        Check.due("P5 TYPE", v.unit(0, 0), 5);
        Check.due("P5 REF", v.unit(0, 1), 3);
        Check.due("P5 bytes", v.unit(0, 2), 3);
        Check.due("P5 TYPE with the highest bit", v.unit(1, 0), 9);
        Check.due("P5 REF with the highest bit", v.unit(1, 1), 3);
        Check.due("P5 no STOP", v.unit(1, 4), -1);
        Check.due("P5 TYPE 31", v.unit(2, 0), 31);
        Check.due("P5 REF 0", v.unit(2, 1), 0);
        Check.due("P5 one byte has no STOP", v.unit(2, 4), -1);
        Check.due("P5 not decoded", v.unit(0, 5), 0);
        v.decode(1);
        Check.due("P5 decoded", v.unit(0, 5), 1);
        Check.due("P5 not decoded", v.unit(1, 5), 0);
        Check.due("P5 not decoded, the last one", v.unit(2, 5), 0);
        Check.bad("P5 what 6", () -> v.unit(0, 6));
        Check.bad("P5 what -1", () -> v.unit(0, -1));
        Check.bad("P5 bad before missing", () -> v.unit(3, 6));
        Check.missing("P5 UNIT 3", () -> v.unit(3, 0));
        Check.missing("P5 UNIT -1", () -> v.unit(-1, 0));
    }

    private static void stopAndPayload() {
        VideoSuite v = split(1, 9, 1, 0, 0, 3, 0, 0, 3, 1, 0x40, 6, 2, 0, 0, 0, 3, 0x10, 5, 0, 0, 3, 0, 1, 3, 1, 3, 3);
        Check.due("P5 PAYLOAD, the next two 0 anew", v.unit(0, 3), 7);
        Check.due("P5 STOP", v.unit(0, 4), 41);
        Check.due("P5 PAYLOAD, three 0", v.unit(1, 3), 5);
        Check.due("P5 STOP", v.unit(1, 4), 27);
        Check.due("P5 PAYLOAD, the first byte counts", v.unit(2, 3), 4);
        Check.due("P5 STOP", v.unit(2, 4), 23);
        Check.due("P5 PAYLOAD, 3 without 0", v.unit(3, 3), 3);
        Check.due("P5 STOP", v.unit(3, 4), 15);
        // each by itself, in another order
        int[] stops = {41, 27, 23, 15};
        int[] payloads = {7, 5, 4, 3};
        for (int k : new int[] {3, 1, 0, 2, 1, 3}) {
            Check.due("P5 STOP of UNIT " + k, v.unit(k, 4), stops[k]);
        }
        for (int k : new int[] {2, 0, 3, 1, 0}) {
            Check.due("P5 PAYLOAD of UNIT " + k, v.unit(k, 3), payloads[k]);
        }
        VideoSuite w = split(1, 3, 0, 3, 1, 5, 0, 0, 2, 0, 3);
        Check.due("P5 PAYLOAD, 3 behind one 0", w.unit(0, 3), 3);
        Check.due("P5 PAYLOAD, 3 behind 0 0 2 0", w.unit(1, 3), 5);
    }

    private static void loseUnits() {
        VideoSuite v = split(1, 1, 10, 1, 11, 1, 12, 1, 13);
        v.decode(1);
        Check.refused("P7 decoded", () -> v.lose(0));
        Check.missing("P7 UNIT 4", () -> v.lose(4));
        Check.missing("P7 UNIT -1", () -> v.lose(-1));
        Check.due("P7 lose", v.lose(2), 3);
        told("P7 the others", v, new int[] {10}, new int[] {11}, new int[] {13});
        Check.due("P7 lose the last", v.lose(2), 2);
        Check.due("P7 lose", v.lose(1), 1);
        Check.due("P7 nothing left to decode", v.decode(1), 0);
        v.anew();
        Check.due("P7 lose what is not decoded any more", v.lose(0), 0);
    }

    private static void loseOfSizes() {
        for (int k = 0; k < 4; k++) {
            VideoSuite v = split(1, 1, 10, 2, 11, 12, 3, 13, 14, 15, 4, 16, 17, 18, 19);
            Check.due("P7 lose", v.lose(k), 3);
            int[][] all = {{10}, {11, 12}, {13, 14, 15}, {16, 17, 18, 19}};
            int[][] left = new int[3][];
            for (int i = 0; i < 3; i++) {
                left[i] = all[i < k ? i : i + 1];
            }
            told("P7 without UNIT " + k, v, left);
            Check.due("P8 flip in one behind", v.flip(2, 0), 1);
            Check.due("P6 its byte", v.unitByte(2, 0), left[2][0] | 128);
            Check.missing("P6 no byte more", () -> v.unitByte(0, left[0].length));
        }
    }

    /** What end() took away is not looked at. */
    private static void beyondTheTape() {
        int[][] tapes = {{0, 0, 1, 9}, {0, 0, 1, 7, 0, 0, 0}, {0, 0, 1, 7, 0, 0, 1}, {0, 0, 1, 7, 0, 0, 1, 8}};
        int[] ends = {2, 6, 6, 7};
        int[][][] due = {{}, {{7, 0, 0}}, {{7, 0, 0}}, {{7}}};
        for (int i = 0; i < tapes.length; i++) {
            VideoSuite v = new VideoSuite();
            Streams.feed(v, Streams.bytes(tapes[i]));
            v.end(ends[i]);
            v.split(0);
            told("P4 to the end of the TAPE, " + i, v, due[i]);
        }
        for (int way = 1; way <= 4; way++) {
            VideoSuite v = new VideoSuite();
            v.feed(0x00010101, 0x01010101, 0x01010101, 0, 0);
            // all bytes of a length but one are there
            int n = way - 1;
            v.end(n);
            int w = way;
            if (n > 0) {
                Check.refused("P4 half a length, way " + way, () -> v.split(w));
            } else {
                Check.due("P4 no length, way 1", v.split(1), 0);
            }
            VideoSuite u = new VideoSuite();
            byte[] b = new byte[way + 3];
            b[way - 1] = 3;
            Streams.feed(u, b);
            u.end(way + 2);
            Check.refused("P4 one byte less than told, way " + way, () -> u.split(w));
            Streams.feed(u, b);
            Check.due("P4 as many as told, way " + way, u.split(way), 1);
        }
    }

    private static void flipBits() {
        VideoSuite v = split(1, 2, 0x67, 0x01, 1, 9);
        Check.due("P8 flip to 1", v.flip(0, 0), 1);
        Check.due("P8 the byte", v.unitByte(0, 0), 0xe7);
        Check.due("P8 flip to 0", v.flip(0, 15), 0);
        Check.due("P8 the byte", v.unitByte(0, 1), 0);
        Check.due("P8 flip back", v.flip(0, 15), 1);
        Check.bad("P8 bit 16", () -> v.flip(0, 16));
        Check.bad("P8 bit -1", () -> v.flip(0, -1));
        Check.missing("P8 UNIT 2", () -> v.flip(2, 0));
        Check.missing("P8 UNIT 2, the bit is not looked at", () -> v.flip(2, -1));
        v.decode(1);
        Check.refused("P8 decoded", () -> v.flip(0, 1));
        Check.bad("P8 bad before REFUSED", () -> v.flip(0, 16));
        Check.due("P8 the next UNIT", v.flip(1, 7), 0);
        Check.due("P8 the byte stays", v.unitByte(0, 0), 0xe7);
    }
}
