import java.util.Arrays;
import java.util.NoSuchElementException;

/**
 * Pictures that move, in the manner of ITU-T H.264: a decoder with repair, a coder, files of boxes and
 * measures. The document's own words (UNIT, BLOCK, PICTURE, STEP, ..) are used for what they name there.
 */
public final class VideoSuite {
    private static final int MOST_BYTES = 65536;
    private static final int MOST_UNITS = 400;
    private static final int MOST_BLOCKS = 32;
    private static final int MOST_EFFORT = 16000;
    private static final int MOST_OUTPUTS = 40;
    private static final int MOST_FAULTS = 200;
    private static final int MOST_ELEMENTS = 4000;

    private static final int SORT_P = 0;
    private static final int SORT_B = 1;
    private static final int SORT_I = 2;

    /** What a BLOCK is, as block() tells it. */
    private static final int MISSING = -1;
    private static final int FOUR = 0;
    private static final int SIXTEEN = 1;
    private static final int RAW = 2;
    private static final int BY_LISTS = 3;
    private static final int MENDED = 4;

    /** The kinds of FAULTS. */
    private static final int AT_END = 1;
    private static final int OUT = 2;
    private static final int NO_SET = 3;
    private static final int WRONG = 4;

    /** How numbers are coded. */
    private static final int UE = 0;
    private static final int SE = 1;
    private static final int TE = 2;

    /** The ELEMENTS of DATA, by which ARITH chooses its states. */
    private static final int E_SKIP = 0;
    private static final int E_TYPE = 1;
    private static final int E_GIVEN = 2;
    private static final int E_REST = 3;
    private static final int E_COLOURS = 4;
    private static final int E_SUB = 5;
    private static final int E_REFERENCE = 6;
    private static final int E_X = 7;
    private static final int E_Y = 8;
    private static final int E_PATTERN = 9;
    private static final int E_MORE = 10;
    private static final int E_TOKEN = 11;
    private static final int E_ONES = 12;
    private static final int E_PREFIX = 13;
    private static final int E_SUFFIX = 14;
    private static final int E_ZEROS = 15;
    private static final int E_RUN = 16;

    /** What stands where in a SEQUENCE's row. */
    private static final int S_WIDTH = 0;
    private static final int S_HEIGHT = 1;
    private static final int S_FRAME = 2;
    private static final int S_KIND = 3;
    private static final int S_LOW = 4;
    private static final int S_REFS = 5;
    private static final int S_GAPS = 6;
    private static final int S_CROP = 7;
    private static final int S_SAME = 11;
    private static final int S_APART = 12;
    private static final int S_BELOW = 13;
    private static final int S_TURNS = 14;
    private static final int S_TURN = 15;
    private static final int S_THERE = 23;
    private static final int S_ROW = 24;

    /** What stands where in the row of PARAMETERS. */
    private static final int P_SEQUENCE = 0;
    private static final int P_CODING = 1;
    private static final int P_PAIR = 2;
    private static final int P_N0 = 3;
    private static final int P_N1 = 4;
    private static final int P_WEIGHTED = 5;
    private static final int P_BOTH = 6;
    private static final int P_STEP = 7;
    private static final int P_APART = 8;
    private static final int P_EDGES = 9;
    private static final int P_OWN = 10;
    private static final int P_THERE = 11;
    private static final int P_ROW = 12;

    private final byte[] tape = new byte[MOST_BYTES];
    private int tapeLength;
    private final Units units = new Units();
    private final Decoder decoder = new Decoder();
    private final Coder coder = new Coder();

    public VideoSuite() {
    }

    public int feed(int a, int b, int c, int d, int e) throws IllegalStateException {
        if (tapeLength > MOST_BYTES - 20) {
            throw new IllegalStateException("the TAPE is full");
        }
        putInt(a);
        putInt(b);
        putInt(c);
        putInt(d);
        putInt(e);
        return tapeLength;
    }

    private void putInt(int v) {
        for (int shift = 24; shift >= 0 && tapeLength < MOST_BYTES; shift -= 8) {
            tape[tapeLength++] = (byte) (v >> shift);
        }
    }

    public int end(int n) throws IllegalArgumentException {
        if (n < 0 || n > tapeLength) {
            throw new IllegalArgumentException("not a length of the TAPE");
        }
        tapeLength = n;
        return n;
    }

    public int split(int way) throws IllegalArgumentException, IllegalStateException {
        if (way < 0 || way > 4) {
            throw new IllegalArgumentException("no such way");
        }
        int length = tapeLength;
        tapeLength = 0;
        units.found = 0;
        boolean fits = way == 0 ? units.cutByMarks(tape, length) : units.cutByLengths(tape, 0, length, way);
        if (!fits) {
            throw new IllegalStateException("the TAPE can't be split so");
        }
        return adopt(tape);
    }

    /** The UNITS found in these bytes become the STREAM. */
    private int adopt(byte[] from) {
        units.keepFound(from);
        decoder.restart();
        return units.count;
    }

    public int unit(int k, int what) throws IllegalArgumentException, NoSuchElementException {
        if (what < 0 || what > 5) {
            throw new IllegalArgumentException("no such what");
        }
        if (!units.has(k)) {
            throw new NoSuchElementException("no such UNIT");
        }
        int first = units.byteAt(k, 0);
        switch (what) {
            case 0:
                return first & 31;
            case 1:
                return first >> 5 & 3;
            case 2:
                return units.size[k];
            case 3:
                units.loadPayload(k);
                return units.payloadSize;
            case 4:
                units.loadPayload(k);
                return units.stopPlace();
            default:
                return k < units.decoded ? 1 : 0;
        }
    }

    public int unitByte(int k, int i) throws NoSuchElementException {
        if (!units.has(k) || i < 0 || i >= units.size[k]) {
            throw new NoSuchElementException("no such byte");
        }
        return units.byteAt(k, i);
    }

    public int lose(int k) throws NoSuchElementException, IllegalStateException {
        if (!units.has(k)) {
            throw new NoSuchElementException("no such UNIT");
        }
        if (k < units.decoded) {
            throw new IllegalStateException("it is decoded");
        }
        units.remove(k);
        return units.count;
    }

    public int flip(int k, int i) throws IllegalArgumentException, NoSuchElementException, IllegalStateException {
        if (!units.has(k)) {
            throw new NoSuchElementException("no such UNIT");
        }
        if (i < 0 || i >= 8 * units.size[k]) {
            throw new IllegalArgumentException("no such bit");
        }
        if (k < units.decoded) {
            throw new IllegalStateException("it is decoded");
        }
        return units.turn(k, i);
    }

    public int anew() {
        decoder.restart();
        units.decoded = 0;
        return units.count;
    }

    public int repair(int way) throws IllegalArgumentException {
        if (way < 0 || way > 3) {
            throw new IllegalArgumentException("no such way");
        }
        int was = decoder.mendWay;
        decoder.mendWay = way;
        return was;
    }

    public int decode(int n) throws IllegalArgumentException, IllegalStateException {
        if (n < 1 || n > MOST_UNITS) {
            throw new IllegalArgumentException("not a number of UNITS");
        }
        if (decoder.effort >= MOST_EFFORT) {
            throw new IllegalStateException("too much EFFORT");
        }
        int done = 0;
        for (int k = units.decoded; k < units.count && done < n; k++) {
            decoder.takeUnit(units, k);
            done++;
        }
        return done;
    }

    public int flush() {
        decoder.endPicture();
        decoder.store.putOutAll();
        return decoder.store.outputs;
    }

    public int picture(int k, int what) throws IllegalArgumentException, NoSuchElementException {
        if (what < 0 || what > 6) {
            throw new IllegalArgumentException("no such what");
        }
        if (!decoder.store.keeps(k)) {
            throw new NoSuchElementException("no such OUTPUT");
        }
        return decoder.store.fact(k, what);
    }

    public int sample(int k, int plane, int x, int y) throws NoSuchElementException {
        Store store = decoder.store;
        if (!store.keeps(k) || plane < 0 || plane > 2) {
            throw new NoSuchElementException("no such plane");
        }
        if (x < 0 || x >= store.wide(k, plane) || y < 0 || y >= store.high(k, plane)) {
            throw new NoSuchElementException("no such sample");
        }
        return store.sampleOf(k, plane, x, y);
    }

    public int sum(int k, int plane) throws NoSuchElementException {
        if (!decoder.store.keeps(k) || plane < 0 || plane > 2) {
            throw new NoSuchElementException("no such plane");
        }
        return decoder.store.sumOf(k, plane);
    }

    public int set(int kind, int id, int what) throws IllegalArgumentException, NoSuchElementException {
        if (kind < 0 || kind > 1 || what < 0 || what > 10) {
            throw new IllegalArgumentException("no such kind or what");
        }
        if (id < 0 || id > 3) {
            throw new NoSuchElementException("no such SET");
        }
        int[] row = kind == 0 ? decoder.sequences[id] : decoder.parameters[id];
        if (row[kind == 0 ? S_THERE : P_THERE] == 0) {
            throw new NoSuchElementException("no such SET");
        }
        return row[what];
    }

    public int slice(int what) throws IllegalArgumentException, NoSuchElementException {
        if (what < 0 || what > 17) {
            throw new IllegalArgumentException("no such what");
        }
        if (decoder.slices == 0) {
            throw new NoSuchElementException("no SLICE was begun");
        }
        return decoder.latest.v[what];
    }

    public int block(int mb, int what) throws IllegalArgumentException, NoSuchElementException {
        if (what < 0 || what == 7 || what > 23) {
            throw new IllegalArgumentException("no such what");
        }
        if (!decoder.work.hasBlock(mb)) {
            throw new NoSuchElementException("no such BLOCK");
        }
        return what < 7 ? decoder.work.info[8 * mb + what] : decoder.work.mode[16 * mb + what - 8];
    }

    public int vector(int mb, int b, int list, int what) throws IllegalArgumentException, NoSuchElementException {
        if (b < 0 || b > 15 || list < 0 || list > 1 || what < 0 || what > 2) {
            throw new IllegalArgumentException("no such piece, list or what");
        }
        if (!decoder.work.hasBlock(mb)) {
            throw new NoSuchElementException("no such BLOCK");
        }
        Picture pic = decoder.work.pic;
        int at = Picture.at(list, 16 * mb + b);
        return what == 2 ? pic.reference[at] : pic.move[2 * at + what];
    }

    public int level(int mb, int b, int i) throws IllegalArgumentException, NoSuchElementException {
        if (b < 0 || b > 26 || i < 0 || i > 15) {
            throw new IllegalArgumentException("no such piece or place");
        }
        if (!decoder.work.hasBlock(mb)) {
            throw new NoSuchElementException("no such BLOCK");
        }
        return decoder.work.level[Work.levelAt(mb, b) + i];
    }

    public int edge(int mb, int b, int way) throws IllegalArgumentException, NoSuchElementException {
        if (b < 0 || b > 15 || way < 0 || way > 1) {
            throw new IllegalArgumentException("no such piece or way");
        }
        if (mb < 0 || mb >= decoder.edges.blocks) {
            throw new NoSuchElementException("no such BLOCK");
        }
        return decoder.edges.strength[2 * (16 * mb + b) + way];
    }

    public int stored(int i, int what) throws IllegalArgumentException, NoSuchElementException {
        if (what < 0 || what > 6) {
            throw new IllegalArgumentException("no such what");
        }
        if (i < 0 || i >= decoder.store.count) {
            throw new NoSuchElementException("no such PICTURE");
        }
        return decoder.store.kept[i].told(what);
    }

    public int entry(int list, int i) throws IllegalArgumentException, NoSuchElementException {
        if (list < 0 || list > 1) {
            throw new IllegalArgumentException("no such list");
        }
        if (i < 0 || i > 7 || decoder.work.entryThere[9 * list + i] == 0) {
            throw new NoSuchElementException("no such entry");
        }
        return decoder.work.entryOrder[9 * list + i];
    }

    public int fault(int i, int what) throws IllegalArgumentException, NoSuchElementException {
        if (what < 0 || what > 2) {
            throw new IllegalArgumentException("no such what");
        }
        if (i < 0 || i >= decoder.faultCount || i >= MOST_FAULTS) {
            throw new NoSuchElementException("no such FAULT");
        }
        return decoder.faults[3 * i + what];
    }

    public int element(int i, int what) throws IllegalArgumentException, NoSuchElementException {
        if (what < 0 || what > 2) {
            throw new IllegalArgumentException("no such what");
        }
        if (i < 0 || i >= decoder.reader.elementCount || i >= MOST_ELEMENTS) {
            throw new NoSuchElementException("no such ELEMENT");
        }
        return decoder.reader.element[3 * i + what];
    }

    public int setting(int what, int v) throws IllegalArgumentException {
        if (!coder.maySet(what, v)) {
            throw new IllegalArgumentException("no such SETTING");
        }
        int was = coder.setting[what];
        coder.setting[what] = v;
        return was;
    }

    public int open() {
        int clash = coder.clash();
        if (clash < 0) {
            coder.start();
        }
        return clash;
    }

    public int paint(int how, int a, int b, int c) throws IllegalArgumentException, IllegalStateException {
        if (how < 0 || how > 4) {
            throw new IllegalArgumentException("no such how");
        }
        if (!coder.isOpen()) {
            throw new IllegalStateException("not OPEN yet");
        }
        switch (how) {
            case 0:
                coder.paintFlat(a, b, c);
                break;
            case 1:
                coder.paintSlope(a, b, c);
                break;
            case 2:
                coder.paintNoise(a, b, c);
                break;
            case 3:
                coder.paintMoved(a, b);
                break;
            default:
                coder.paintSquare(a & 127, b & 127, c & 255);
                break;
        }
        return coder.inputSum();
    }

    public int encode() throws IllegalStateException {
        if (!coder.isOpen() || coder.isSpent()) {
            throw new IllegalStateException("no PICTURE can be coded");
        }
        coder.hold();
        if (coder.opensAnew()) {
            int last = coder.waiting - 1;
            for (int slot = 0; slot < last; slot++) {
                coder.codePicture(slot, SORT_P);
            }
            coder.codePicture(last, SORT_I);
            coder.waiting = 0;
        } else if (coder.waiting > coder.now[Coder.MANY]) {
            int last = coder.waiting - 1;
            coder.codePicture(last, SORT_P);
            for (int slot = 0; slot < last; slot++) {
                coder.codePicture(slot, SORT_B);
            }
            coder.waiting = 0;
        }
        return coder.codedCount;
    }

    public int finish() throws IllegalStateException {
        if (!coder.isOpen()) {
            throw new IllegalStateException("not OPEN yet");
        }
        for (int slot = 0; slot < coder.waiting; slot++) {
            coder.codePicture(slot, SORT_P);
        }
        coder.waiting = 0;
        return coder.codedCount;
    }

    public int made(int i) throws NoSuchElementException {
        if (i < 0 || i >= coder.writer.length) {
            throw new NoSuchElementException("no such byte");
        }
        return coder.writer.made[i] & 255;
    }

    public int take() throws IllegalStateException {
        units.found = 0;
        if (coder.writer.length > MOST_BYTES || !units.cutByMarks(coder.writer.made, coder.writer.length)) {
            throw new IllegalStateException("too much is MADE");
        }
        return adopt(coder.writer.made);
    }

    public int coded(int k, int what) throws IllegalArgumentException, NoSuchElementException {
        if (what < 0 || what > 6) {
            throw new IllegalArgumentException("no such what");
        }
        if (k < 0 || k >= coder.codedCount || k >= Coder.MOST_PICTURES) {
            throw new NoSuchElementException("no such PICTURE");
        }
        return coder.codedFact[7 * k + what];
    }

    public int mux() throws IllegalStateException {
        if (units.fileLength() > MOST_BYTES) {
            throw new IllegalStateException("the file is too long");
        }
        tapeLength = units.writeFile(tape);
        return tapeLength;
    }

    public int demux() throws IllegalStateException {
        int length = tapeLength;
        tapeLength = 0;
        units.found = 0;
        if (!units.readBoxes(tape, length) || !units.cutByTables(tape, length)) {
            throw new IllegalStateException("no such file");
        }
        return adopt(tape);
    }

    public int box(int k, int what) throws IllegalArgumentException, NoSuchElementException {
        if (what < 0 || what > 3) {
            throw new IllegalArgumentException("no such what");
        }
        if (k < 0 || k >= units.boxCount) {
            throw new NoSuchElementException("no such BOX");
        }
        return units.box[4 * k + what];
    }

    public int buffer(int rate, int size) throws IllegalArgumentException {
        if (rate < 0 || rate > 1 << 30 || size < 0 || size > 1 << 30) {
            throw new IllegalArgumentException("not a rate or size");
        }
        long bits = size;
        for (int k = 0; k < units.count; k++) {
            int type = units.byteAt(k, 0) & 31;
            if (type != 1 && type != 5) {
                continue;
            }
            bits -= 8L * units.size[k];
            if (bits < 0) {
                return k;
            }
            bits = bits + rate > size ? size : bits + rate;
        }
        return -1;
    }

    public long quality(int k, int j, int what, int x, int y)
            throws IllegalArgumentException, NoSuchElementException, IllegalStateException {
        Store store = decoder.store;
        if (what < 0 || what > 2) {
            throw new IllegalArgumentException("no such what");
        }
        if (!store.keeps(k) || !store.keeps(j)) {
            throw new NoSuchElementException("no such OUTPUT");
        }
        int wide = store.wide(k, 0);
        int high = store.high(k, 0);
        if (what > 0 && (x < 0 || y < 0 || x > wide - 8 || y > high - 8 || x % 4 != 0 || y % 4 != 0)) {
            throw new NoSuchElementException("no such BLOCK");
        }
        if (wide != store.wide(j, 0) || high != store.high(j, 0)) {
            throw new IllegalStateException("of other sizes");
        }
        return what == 0 ? squares(k, j) : index(k, j, what, x, y);
    }

    private long squares(int k, int j) {
        Store store = decoder.store;
        int n = store.wide(k, 0) * store.high(k, 0);
        long sum = 0;
        for (int i = 0; i < n; i++) {
            long d = store.sampleAt(k, i) - store.sampleAt(j, i);
            sum += d * d;
        }
        return sum;
    }

    private long index(int k, int j, int what, int x, int y) {
        Store store = decoder.store;
        long a = 0;
        long b = 0;
        long p = 0;
        long q = 0;
        long r = 0;
        for (int i = 0; i < 64; i++) {
            long s = store.sampleOf(k, 0, x + i % 8, y + i / 8);
            long t = store.sampleOf(j, 0, x + i % 8, y + i / 8);
            a += s;
            b += t;
            p += s * s;
            q += t * t;
            r += s * t;
        }
        long upper = (2 * a * b + 416) * (2 * (64 * r - a * b) + 239804);
        long lower = (a * a + b * b + 416) * (64 * p - a * a + 64 * q - b * b + 239804);
        long common = commonDivisor(upper < 0 ? -upper : upper, lower < 0 ? -lower : lower);
        if (common == 0) {
            return 0;
        }
        return (what == 1 ? upper : lower) / common;
    }

    private static long commonDivisor(long a, long b) {
        long u = a;
        long v = b;
        for (int i = 0; i < 200 && v != 0; i++) {
            long rest = u % v;
            u = v;
            v = rest;
        }
        return u;
    }

    public int scale(int k, int plane, int w, int h, int x, int y)
            throws IllegalArgumentException, NoSuchElementException {
        if (w < 1 || w > 256 || h < 1 || h > 256 || x < 0 || x >= w || y < 0 || y >= h) {
            throw new IllegalArgumentException("not such a size, or not in it");
        }
        if (!decoder.store.keeps(k) || plane < 0 || plane > 2) {
            throw new NoSuchElementException("no such plane");
        }
        return areaMean(k, plane, w, h, x, y);
    }

    /** A sample is w by h small parts of the area that wide by high such parts make. */
    private int areaMean(int k, int plane, int w, int h, int x, int y) {
        Store store = decoder.store;
        int wide = store.wide(k, plane);
        int high = store.high(k, plane);
        long sum = 0;
        for (int j = y * high / h; j < high && j * h < (y + 1) * high; j++) {
            long tall = overlap(j * h, (j + 1) * h, y * high, (y + 1) * high);
            for (int i = x * wide / w; i < wide && i * w < (x + 1) * wide; i++) {
                long broad = overlap(i * w, (i + 1) * w, x * wide, (x + 1) * wide);
                sum += tall * broad * store.sampleOf(k, plane, i, j);
            }
        }
        long area = (long) wide * high;
        return area == 0 ? 0 : (int) ((2 * sum + area) / (2 * area));
    }

    private static int overlap(int a, int b, int c, int d) {
        int from = a > c ? a : c;
        int to = b < d ? b : d;
        return to > from ? to - from : 0;
    }

    public int histogram(int k, int plane, int v) throws NoSuchElementException {
        Store store = decoder.store;
        if (!store.keeps(k) || plane < 0 || plane > 2) {
            throw new NoSuchElementException("no such plane");
        }
        int n = 0;
        for (int y = 0; y < store.high(k, plane); y++) {
            for (int x = 0; x < store.wide(k, plane); x++) {
                n += store.sampleOf(k, plane, x, y) == v ? 1 : 0;
            }
        }
        return n;
    }

    public int count(int what) {
        switch (what) {
            case 0:
                return tapeLength;
            case 1:
                return units.count;
            case 2:
                return units.decoded;
            case 3:
                return decoder.store.outputs;
            case 4:
                return decoder.faultCount;
            case 5:
                return decoder.store.count;
            case 6:
                return decoder.underWay ? 1 : 0;
            case 7:
                return decoder.slices;
            case 8:
                return decoder.reader.elementCount;
            case 9:
                return coder.writer.length;
            case 10:
                return coder.codedCount;
            case 11:
                return coder.waiting;
            case 12:
                return units.boxCount;
            case 13:
                return coder.chance;
            case 14:
                return decoder.mended;
            default:
                return -1;
        }
    }

    private static int clip(int x) {
        return x < 0 ? 0 : x > 255 ? 255 : x;
    }

    private static int clamp(int low, int high, int x) {
        return x < low ? low : x > high ? high : x;
    }

    private static int hash(int[] row, int from, int n) {
        int h = 0;
        for (int i = from; i < from + n && i < row.length; i++) {
            h = 31 * h + row[i];
        }
        return h;
    }

    /** The STREAM: its UNITS, the PAYLOAD of one of them, and the BOXES of files. */
    private static final class Units {
        static final int MOST_BOXES = 60;
        static final int FTYP = 0x66747970;
        static final int MOOV = 0x6d6f6f76;
        static final int MVHD = 0x6d766864;
        static final int TRAK = 0x7472616b;
        static final int STSZ = 0x7374737a;
        static final int STCO = 0x7374636f;
        static final int MDAT = 0x6d646174;
        static final int ISOM = 0x69736f6d;
        static final int AVC1 = 0x61766331;

        final byte[] bytes = new byte[MOST_BYTES];
        final int[] start = new int[MOST_UNITS];
        final int[] size = new int[MOST_UNITS];
        int count;
        int decoded;

        /** Where pieces lie that are to become UNITS, if all goes well. */
        final int[] foundStart = new int[MOST_UNITS];
        final int[] foundSize = new int[MOST_UNITS];
        int found;

        final byte[] payload = new byte[MOST_BYTES];
        int payloadSize;

        final int[] box = new int[4 * MOST_BOXES];
        int boxCount;
        /** Where the contents of the first stsz and stco stand, and how long they are; -1 without. */
        final int[] table = new int[4];
        /** For each depth of BOXES: where that in which one stands ends, and its number. */
        final int[] nest = new int[6];
        private int fileAt;

        boolean has(int k) {
            return k >= 0 && k < count;
        }

        /** Byte i of UNIT k, that must be there. */
        int byteAt(int k, int i) {
            return bytes[start[k] + i] & 255;
        }

        int turn(int k, int i) {
            int at = start[k] + (i >> 3);
            bytes[at] ^= (byte) (128 >> (i & 7));
            return bytes[at] >> (7 - (i & 7)) & 1;
        }

        void remove(int k) {
            for (int i = k; i + 1 < count; i++) {
                start[i] = start[i + 1];
                size[i] = size[i + 1];
            }
            count--;
        }

        private boolean note(int at, int n) {
            if (found >= MOST_UNITS) {
                return false;
            }
            foundStart[found] = at;
            foundSize[found] = n;
            found++;
            return true;
        }

        /** SPLIT by way 0; false where there are too many. */
        boolean cutByMarks(byte[] from, int end) {
            int i = 0;
            while (i + 2 < end) {
                if (from[i] != 0 || from[i + 1] != 0 || from[i + 2] != 1) {
                    i++;
                    continue;
                }
                int begin = i + 3;
                i = begin;
                while (i < end && !endsUnit(from, i, end)) {
                    i++;
                }
                if (i > begin && !note(begin, i - begin)) {
                    return false;
                }
            }
            return true;
        }

        private static boolean endsUnit(byte[] from, int i, int end) {
            return i + 2 < end && from[i] == 0 && from[i + 1] == 0 && (from[i + 2] == 0 || from[i + 2] == 1);
        }

        /** SPLIT by lengths of so many bytes; false where one is beyond the end, or there are too many. */
        boolean cutByLengths(byte[] from, int begin, int end, int way) {
            int i = begin;
            while (i < end) {
                if (end - i < way) {
                    return false;
                }
                long n = 0;
                for (int j = 0; j < way; j++) {
                    n = n << 8 | from[i + j] & 255;
                }
                i += way;
                if (n > end - i || n > 0 && !note(i, (int) n)) {
                    return false;
                }
                i += (int) n;
            }
            return true;
        }

        void keepFound(byte[] from) {
            int at = 0;
            for (int k = 0; k < found; k++) {
                int n = foundSize[k];
                if (n <= bytes.length - at && n <= from.length - foundStart[k]) {
                    System.arraycopy(from, foundStart[k], bytes, at, n);
                }
                start[k] = at;
                size[k] = n;
                at += n;
            }
            count = found;
            decoded = 0;
        }

        void loadPayload(int k) {
            int zeros = 0;
            payloadSize = 0;
            for (int i = 0; i < size[k]; i++) {
                byte v = bytes[start[k] + i];
                if (zeros >= 2 && v == 3) {
                    zeros = 0;
                    continue;
                }
                payload[payloadSize++] = v;
                zeros = v == 0 ? zeros + 1 : 0;
            }
        }

        /** The place of STOP in the PAYLOAD that is loaded; -1 without. */
        int stopPlace() {
            for (int i = payloadSize - 1; i > 0; i--) {
                for (int bit = 0; bit < 8 && payload[i] != 0; bit++) {
                    if ((payload[i] >> bit & 1) == 1) {
                        return 8 * (i - 1) + 7 - bit;
                    }
                }
            }
            return -1;
        }

        int fileLength() {
            return 24 + 8 + 108 + trackLength() + 8 + contentLength();
        }

        private int trackLength() {
            return 8 + 20 + 4 * count + 20;
        }

        private int contentLength() {
            int n = 0;
            for (int k = 0; k < count; k++) {
                n += 4 + size[k];
            }
            return n;
        }

        /** The STREAM as a file, that must fit; answers its length. */
        int writeFile(byte[] to) {
            fileAt = 0;
            put4(to, 24);
            put4(to, FTYP);
            put4(to, ISOM);
            put4(to, 0x200);
            put4(to, ISOM);
            put4(to, AVC1);
            put4(to, 8 + 108 + trackLength());
            put4(to, MOOV);
            put4(to, 108);
            put4(to, MVHD);
            for (int i = 0; i < 25; i++) {
                put4(to, 0);
            }
            put4(to, trackLength());
            put4(to, TRAK);
            writeTables(to);
            put4(to, 8 + contentLength());
            put4(to, MDAT);
            for (int k = 0; k < count; k++) {
                put4(to, size[k]);
                for (int i = 0; i < size[k] && fileAt < to.length; i++) {
                    to[fileAt++] = bytes[start[k] + i];
                }
            }
            return fileAt;
        }

        private void writeTables(byte[] to) {
            put4(to, 20 + 4 * count);
            put4(to, STSZ);
            put4(to, 0);
            put4(to, 0);
            put4(to, count);
            for (int k = 0; k < count; k++) {
                put4(to, 4 + size[k]);
            }
            put4(to, 20);
            put4(to, STCO);
            put4(to, 0);
            put4(to, 1);
            put4(to, fileAt + 4 + 8);
        }

        private void put4(byte[] to, int v) {
            for (int shift = 24; shift >= 0 && fileAt < to.length; shift -= 8) {
                to[fileAt++] = (byte) (v >> shift);
            }
        }

        private static long number4(byte[] from, int at) {
            long n = 0;
            for (int i = at; i < at + 4 && i < from.length; i++) {
                n = n << 8 | from[i] & 255;
            }
            return n;
        }

        /** Walks through the BOXES; false where one is broken. */
        boolean readBoxes(byte[] from, int length) {
            boxCount = 0;
            Arrays.fill(table, -1);
            int depth = 0;
            int at = 0;
            nest[0] = length;
            nest[1] = -1;
            while (at < length) {
                if (at == nest[2 * depth] && depth > 0) {
                    depth--;
                    continue;
                }
                int room = nest[2 * depth] - at;
                long n = room < 8 ? 0 : number4(from, at);
                if (n < 8 || n > room) {
                    return false;
                }
                int name = (int) number4(from, at + 4);
                boolean isKept = boxCount < MOST_BOXES;
                noteBox(name, at, (int) n, nest[2 * depth + 1]);
                if (isKept && depth < 2 && name == (depth == 0 ? MOOV : TRAK)) {
                    depth++;
                    nest[2 * depth] = at + (int) n;
                    nest[2 * depth + 1] = boxCount - 1;
                    at += 8;
                } else {
                    at += (int) n;
                }
            }
            return true;
        }

        private void noteBox(int name, int at, int n, int inside) {
            if (boxCount < MOST_BOXES) {
                int row = 4 * boxCount;
                box[row] = name;
                box[row + 1] = at;
                box[row + 2] = n;
                box[row + 3] = inside;
                boxCount++;
            }
            int which = name == STSZ ? 0 : name == STCO ? 2 : -1;
            if (which >= 0 && table[which] < 0) {
                table[which] = at + 8;
                table[which + 1] = n - 8;
            }
        }

        /** Cuts the pieces that stsz and stco tell; false where they can't be. */
        boolean cutByTables(byte[] from, int length) {
            if (table[0] < 0 || table[2] < 0 || table[1] < 12 || table[3] < 12) {
                return false;
            }
            long pieces = number4(from, table[0] + 8);
            if (12 + 4 * pieces > table[1]) {
                return false;
            }
            long at = number4(from, table[2] + 8);
            for (int i = 0; i < pieces; i++) {
                long n = number4(from, table[0] + 12 + 4 * i);
                if (at + n > length || !cutByLengths(from, (int) at, (int) (at + n), 4)) {
                    return false;
                }
                at += n;
            }
            return true;
        }
    }

    /** BITS of a UNIT and what is read of them, by TABLES or by ARITH. */
    private static final class Reader {
        static final int[] LOWER = {
            128, 176, 208, 240, 128, 167, 197, 227, 128, 158, 187, 216, 123, 150, 178, 205, 116, 142, 169, 195,
            111, 135, 160, 185, 105, 128, 152, 175, 100, 122, 144, 166, 95, 116, 137, 158, 90, 110, 130, 150, 85,
            104, 123, 142, 81, 99, 117, 135, 77, 94, 111, 128, 73, 89, 105, 122, 69, 85, 100, 116, 66, 80, 95, 110,
            62, 76, 90, 104, 59, 72, 86, 99, 56, 69, 81, 94, 53, 65, 77, 89, 51, 62, 73, 85, 48, 59, 69, 80, 46,
            56, 66, 76, 43, 53, 63, 72, 41, 50, 59, 69, 39, 48, 56, 65, 37, 45, 54, 62, 35, 43, 51, 59, 33, 41, 48,
            56, 32, 39, 46, 53, 30, 37, 43, 50, 29, 35, 41, 48, 27, 33, 39, 45, 26, 31, 37, 43, 24, 30, 35, 41, 23,
            28, 33, 39, 22, 27, 32, 37, 21, 26, 30, 35, 20, 24, 29, 33, 19, 23, 27, 31, 18, 22, 26, 30, 17, 21, 25,
            28, 16, 20, 23, 27, 15, 19, 22, 25, 14, 18, 21, 24, 14, 17, 20, 23, 13, 16, 19, 22, 12, 15, 18, 21, 12,
            14, 17, 20, 11, 14, 16, 19, 11, 13, 15, 18, 10, 12, 15, 17, 10, 12, 14, 16, 9, 11, 13, 15, 9, 11, 12,
            14, 8, 10, 12, 14, 8, 9, 11, 13, 7, 9, 11, 12, 7, 9, 10, 12, 7, 8, 10, 11, 6, 8, 9, 11, 6, 7, 9, 10, 6,
            7, 8, 9, 2, 2, 2, 2
        };
        static final int[] DOWN = {
            0, 0, 1, 2, 2, 4, 4, 5, 6, 7, 8, 9, 9, 11, 11, 12, 13, 13, 15, 15, 16, 16, 18, 18, 19, 19, 21, 21, 22,
            22, 23, 24, 24, 25, 26, 26, 27, 27, 28, 29, 29, 30, 30, 30, 31, 32, 32, 33, 33, 33, 34, 34, 35, 35, 35,
            36, 36, 36, 37, 37, 37, 38, 38, 63
        };

        /** The codes of all tables, length and value each: TOKEN 0, 1, 2, 4; ZEROS; E; RUN. */
        static final int[] CODES = {
            1, 1, 6, 5, 2, 1, 8, 7, 6, 4, 3, 1, 9, 7, 8, 6, 7, 5, 5, 3, 10, 7, 9, 6, 8, 5, 6, 3, 11, 7, 10, 6, 9,
            5, 7, 4, 13, 15, 11, 6, 10, 5, 8, 4, 13, 11, 13, 14, 11, 5, 9, 4, 13, 8, 13, 10, 13, 13, 10, 4, 14, 15,
            14, 14, 13, 9, 11, 4, 14, 11, 14, 10, 14, 13, 13, 12, 15, 15, 15, 14, 14, 9, 14, 12, 15, 11, 15, 10,
            15, 13, 14, 8, 16, 15, 15, 1, 15, 9, 15, 12, 16, 11, 16, 14, 16, 13, 15, 8, 16, 7, 16, 10, 16, 9, 16,
            12, 16, 4, 16, 6, 16, 5, 16, 8, 2, 3, 6, 11, 2, 2, 6, 7, 5, 7, 3, 3, 7, 7, 6, 10, 6, 9, 4, 5, 8, 7, 6,
            6, 6, 5, 4, 4, 8, 4, 7, 6, 7, 5, 5, 6, 9, 7, 8, 6, 8, 5, 6, 8, 11, 15, 9, 6, 9, 5, 6, 4, 11, 11, 11,
            14, 11, 13, 7, 4, 12, 15, 11, 10, 11, 9, 9, 4, 12, 11, 12, 14, 12, 13, 11, 12, 12, 8, 12, 10, 12, 9,
            11, 8, 13, 15, 13, 14, 13, 13, 12, 12, 13, 11, 13, 10, 13, 9, 13, 12, 13, 7, 14, 11, 13, 6, 13, 8, 14,
            9, 14, 8, 14, 10, 13, 1, 14, 7, 14, 6, 14, 5, 14, 4, 4, 15, 6, 15, 4, 14, 6, 11, 5, 15, 4, 13, 6, 8, 5,
            12, 5, 14, 4, 12, 7, 15, 5, 10, 5, 11, 4, 11, 7, 11, 5, 8, 5, 9, 4, 10, 7, 9, 6, 14, 6, 13, 4, 9, 7, 8,
            6, 10, 6, 9, 4, 8, 8, 15, 7, 14, 7, 13, 5, 13, 8, 11, 8, 14, 7, 10, 6, 12, 9, 15, 8, 10, 8, 13, 7, 12,
            9, 11, 9, 14, 8, 9, 8, 12, 9, 8, 9, 10, 9, 13, 8, 8, 10, 13, 9, 7, 9, 9, 9, 12, 10, 9, 10, 12, 10, 11,
            10, 10, 10, 5, 10, 8, 10, 7, 10, 6, 10, 1, 10, 4, 10, 3, 10, 2, 2, 1, 6, 7, 1, 1, 6, 4, 6, 6, 3, 1, 6,
            3, 7, 3, 7, 2, 6, 5, 6, 2, 8, 3, 8, 2, 7, 0, 1, 1, 3, 3, 3, 2, 4, 3, 4, 2, 5, 3, 5, 2, 6, 3, 6, 2, 7,
            3, 7, 2, 8, 3, 8, 2, 9, 3, 9, 2, 9, 1, 3, 7, 3, 6, 3, 5, 3, 4, 3, 3, 4, 5, 4, 4, 4, 3, 4, 2, 5, 3, 5,
            2, 6, 3, 6, 2, 6, 1, 6, 0, 4, 5, 3, 7, 3, 6, 3, 5, 4, 4, 4, 3, 3, 4, 3, 3, 4, 2, 5, 3, 5, 2, 6, 1, 5,
            1, 6, 0, 5, 3, 3, 7, 4, 5, 4, 4, 3, 6, 3, 5, 3, 4, 4, 3, 3, 3, 4, 2, 5, 2, 5, 1, 5, 0, 4, 5, 4, 4, 4,
            3, 3, 7, 3, 6, 3, 5, 3, 4, 3, 3, 4, 2, 5, 1, 4, 1, 5, 0, 6, 1, 5, 1, 3, 7, 3, 6, 3, 5, 3, 4, 3, 3, 3,
            2, 4, 1, 3, 1, 6, 0, 6, 1, 5, 1, 3, 5, 3, 4, 3, 3, 2, 3, 3, 2, 4, 1, 3, 1, 6, 0, 6, 1, 4, 1, 5, 1, 3,
            3, 2, 3, 2, 2, 3, 2, 3, 1, 6, 0, 6, 1, 6, 0, 4, 1, 2, 3, 2, 2, 3, 1, 2, 1, 5, 1, 5, 1, 5, 0, 3, 1, 2,
            3, 2, 2, 2, 1, 4, 1, 4, 0, 4, 1, 3, 1, 3, 2, 1, 1, 3, 3, 4, 0, 4, 1, 2, 1, 1, 1, 3, 1, 3, 0, 3, 1, 1,
            1, 2, 1, 2, 0, 2, 1, 1, 1, 1, 0, 1, 1, 1, 1, 2, 1, 3, 1, 3, 0, 1, 1, 2, 1, 2, 0, 1, 1, 1, 0, 1, 1, 1,
            0, 1, 1, 2, 1, 2, 0, 2, 3, 2, 2, 2, 1, 2, 0, 2, 3, 2, 2, 2, 1, 3, 1, 3, 0, 2, 3, 2, 2, 3, 3, 3, 2, 3,
            1, 3, 0, 2, 3, 3, 0, 3, 1, 3, 3, 3, 2, 3, 5, 3, 4, 3, 7, 3, 6, 3, 5, 3, 4, 3, 3, 3, 2, 3, 1, 4, 1, 5,
            1, 6, 1, 7, 1, 8, 1, 9, 1, 10, 1, 11, 1
        };
        /** Where each table begins in CODES (in codes), and where the last one ends. */
        static final int[] TABLE_AT = {
            0, 62, 124, 186, 200, 216, 231, 245, 258, 270, 281, 291, 300, 308, 315, 321, 326, 330, 333, 335, 339,
            342, 344, 346, 349, 353, 358, 364, 371, 386
        };
        /** The patterns by their codes: of FOUR, then of the others. */
        static final int[] PATTERN = {
            47, 31, 15, 0, 23, 27, 29, 30, 7, 11, 13, 14, 39, 43, 45, 46, 16, 3, 5, 10, 12, 19, 21, 26, 28, 35, 37,
            42, 44, 1, 2, 4, 8, 17, 18, 20, 24, 6, 9, 22, 25, 32, 33, 34, 36, 40, 38, 41, 0, 16, 1, 2, 4, 8, 32, 3,
            5, 10, 12, 15, 47, 7, 11, 13, 14, 6, 9, 31, 35, 37, 42, 44, 33, 34, 36, 40, 39, 43, 45, 46, 17, 18, 20,
            24, 19, 21, 26, 28, 23, 27, 29, 30, 22, 25, 38, 41
        };
        static final int TABLES = 29;
        static final int ZEROS_TABLE = 3;
        static final int EVEN_ZEROS_TABLE = 18;
        static final int RUN_TABLE = 21;
        static final int STATES = 272;

        private byte[] data;
        private int total;
        int place;
        private int stop;
        /** Where the ELEMENT began that is read, and the last one that was read. */
        int begin;
        int lastBegin;
        /** Whether bits are decisions, and whether ARITH's DATA is read (also where its bits are plain). */
        private boolean arith;
        private boolean inData;
        private int range;
        private int offset;
        private final int[] state = new int[STATES];
        final int[] element = new int[3 * MOST_ELEMENTS];
        int elementCount;
        /** For each node and bit: the next node; below 0 the code's number, less it and 1; 0 none. */
        private final int[] tree = new int[2 * 400];
        private final int[] size = new int[16];
        int faultKind;
        int faultPlace;

        Reader() {
            int nodes = TABLES;
            for (int t = 0; t < TABLES; t++) {
                for (int k = TABLE_AT[t]; k < TABLE_AT[t + 1]; k++) {
                    nodes = plant(t, k - TABLE_AT[t], CODES[2 * k], CODES[2 * k + 1], nodes);
                }
            }
        }

        private int plant(int root, int number, int length, int value, int nodes) {
            int node = root;
            int next = nodes;
            for (int bit = length - 1; bit > 0; bit--) {
                int at = 2 * node + (value >> bit & 1);
                if (tree[at] == 0) {
                    tree[at] = next++;
                }
                node = tree[at];
            }
            tree[2 * node + (value & 1)] = -1 - number;
            return next;
        }

        static int lengthOf(int table, int number) {
            int at = TABLE_AT[table] + number;
            return number < 0 || at >= TABLE_AT[table + 1] ? 0 : CODES[2 * at];
        }

        static int valueOf(int table, int number) {
            int at = TABLE_AT[table] + number;
            return number < 0 || at >= TABLE_AT[table + 1] ? 0 : CODES[2 * at + 1];
        }

        void load(Units units) {
            data = units.payload;
            total = 8 * (units.payloadSize - 1);
            stop = units.stopPlace();
            place = 0;
            begin = 0;
            lastBegin = 0;
            arith = false;
            inData = false;
            elementCount = 0;
        }

        boolean more() {
            return place < stop;
        }

        /** A FAULT; its place, if it is not in ARITH's DATA, is told. */
        void fail(int kind, int tablesPlace) {
            faultKind = kind;
            faultPlace = inData ? place : tablesPlace;
            throw new IllegalStateException("a FAULT");
        }

        void failHere(int kind) {
            fail(kind, lastBegin);
        }

        private int plainBit() {
            if (place >= total) {
                fail(AT_END, begin);
            }
            int v = data[1 + (place >> 3)] >> (7 - (place & 7)) & 1;
            place++;
            return v;
        }

        /** One bit; in ARITH the decision of bit j of the ELEMENT number e. */
        int bit(int e, int j) {
            int v = 0;
            if (arith) {
                int i = 16 * e + (j < 15 ? j : 15);
                int s = state[i] >> 1;
                int likely = state[i] & 1;
                int r = LOWER[4 * s + (range >> 6 & 3)];
                v = likely;
                range -= r;
                if (offset < range) {
                    s = s < 62 ? s + 1 : 62;
                } else {
                    v = 1 - likely;
                    offset -= range;
                    range = r;
                    likely = s == 0 ? v : likely;
                    s = DOWN[s];
                }
                state[i] = s << 1 | likely;
            }
            for (int k = 0; k < 9 && (arith ? range < 256 : k < 1); k++) {
                if (place >= total) {
                    faultKind = AT_END;
                    faultPlace = inData ? place : begin;
                    throw new IllegalStateException("BITS end");
                }
                int next = data[1 + (place >> 3)] >> (7 - (place & 7)) & 1;
                place++;
                if (arith) {
                    range <<= 1;
                    offset = offset << 1 | next;
                } else {
                    v = next;
                }
            }
            return v;
        }

        private void widen() {
            for (int k = 0; k < 9 && range < 256; k++) {
                offset = offset << 1 | plainBit();
                range <<= 1;
            }
        }

        /** The END decision. */
        boolean isLast() {
            range -= 2;
            if (offset >= range) {
                return true;
            }
            widen();
            return false;
        }

        /** Begins ARITH's DATA: bits 1 up to a whole byte, then all STATES anew. */
        void beginData() {
            inData = true;
            for (int k = 0; k < 8 && (place & 7) != 0; k++) {
                if (plainBit() == 0) {
                    fail(OUT, place);
                }
            }
            Arrays.fill(state, 0);
            beginArith();
        }

        private void beginArith() {
            range = 510;
            offset = 0;
            for (int k = 0; k < 9; k++) {
                offset = offset << 1 | plainBit();
            }
            arith = true;
        }

        /** The samples of a RAW BLOCK, behind its type. */
        void rawSamples(int[] to) {
            boolean wasArith = arith;
            if (wasArith && !isLast()) {
                failHere(WRONG);
            }
            arith = false;
            int gap = -place & 7;
            if (gap > 0 && fixed(0, gap) != 0) {
                fail(OUT, begin);
            }
            for (int i = 0; i < 384 && i < to.length; i++) {
                to[i] = fixed(0, 8);
            }
            if (wasArith) {
                beginArith();
            }
        }

        private void record(int v) {
            lastBegin = begin;
            if (inData) {
                return;
            }
            if (elementCount < MOST_ELEMENTS) {
                element[3 * elementCount] = begin;
                element[3 * elementCount + 1] = place - begin;
                element[3 * elementCount + 2] = v;
            }
            elementCount++;
        }

        int fixed(int e, int n) {
            begin = place;
            int v = 0;
            for (int j = 0; j < n; j++) {
                v = v << 1 | bit(e, j);
            }
            record(v);
            return v;
        }

        /** A flag that must be so. */
        void expect(int due) {
            if (fixed(0, 1) != due) {
                fail(OUT, begin);
            }
        }

        /** ue, se, or te of the range's upper end. */
        int number(int e, int kind, long low, long high) {
            begin = place;
            long v;
            if (kind == TE && high == 1) {
                v = 1 - bit(e, 0);
            } else {
                int z = 0;
                while (z < 32 && bit(e, z) == 0) {
                    z++;
                }
                if (z > 31) {
                    fail(OUT, begin);
                }
                long x = 0;
                for (int j = 0; j < z; j++) {
                    x = x << 1 | bit(e, z + 1 + j);
                }
                v = (1L << z) - 1 + x;
                if (kind == SE) {
                    v = (v & 1) == 1 ? (v + 1) / 2 : -(v / 2);
                }
            }
            if (v < low || v > high) {
                fail(OUT, begin);
            }
            record((int) v);
            return (int) v;
        }

        /** A code of a table; of TOKEN's tables 4 t + o, of the others its number. */
        private int code(int e, int table) {
            begin = place;
            int node = table;
            for (int j = 0; j < 17 && node >= 0; j++) {
                node = tree[2 * node + bit(e, j)];
                if (node == 0) {
                    fail(WRONG, begin);
                }
            }
            int v = -1 - node;
            if (table < ZEROS_TABLE + 1) {
                v += v < 1 ? 0 : v < 3 ? 3 : v < 6 ? 5 : 6;
            }
            record(v);
            return v;
        }

        /** LEVELS of n, TOKEN by a table (3: u(6)), into a row at a place; answers TOTAL. */
        int levels(int table, int n, int[] row, int at) {
            int token;
            if (table == 3) {
                int v = fixed(E_TOKEN, 6);
                token = v == 3 ? 0 : v + 4;
            } else {
                token = code(E_TOKEN, table == 4 ? 3 : table);
            }
            int t = token >> 2;
            int ones = token & 3;
            if (ones > t || t > n) {
                failHere(WRONG);
            }
            int s = t > 10 && ones < 3 ? 1 : 0;
            for (int i = 0; i < t; i++) {
                if (i < ones) {
                    size[i] = 1 - 2 * fixed(E_ONES, 1);
                    continue;
                }
                size[i] = oneLevel(s, i == ones && ones < 3);
                s = s == 0 ? 1 : s;
                s = s < 6 && Math.abs(size[i]) > 3 << (s - 1) ? s + 1 : s;
            }
            spread(n, t, row, at);
            return t;
        }

        private int oneLevel(int s, boolean isMore) {
            begin = place;
            int p = 0;
            while (p < 16 && bit(E_PREFIX, p) == 0) {
                p++;
            }
            if (p > 15) {
                fail(OUT, begin);
            }
            record(p);
            int bits = p == 15 ? 12 : p == 14 && s == 0 ? 4 : s;
            int v = (p < 15 ? p : 15) << s;
            if (bits > 0) {
                v += fixed(E_SUFFIX, bits);
            }
            v += p == 15 && s == 0 ? 15 : 0;
            v += isMore ? 2 : 0;
            return (v & 1) == 0 ? (v + 2) / 2 : -(v + 1) / 2;
        }

        /** Reads where the t LEVELS stand, and puts them there. */
        private void spread(int n, int t, int[] row, int at) {
            int zeros = 0;
            if (t > 0 && t < n) {
                zeros = code(E_ZEROS, (n == 4 ? EVEN_ZEROS_TABLE : ZEROS_TABLE) + t);
                if (zeros + t > n) {
                    failHere(WRONG);
                }
            }
            int to = at + zeros + t - (n == 15 ? 0 : 1);
            for (int i = 0; i < t; i++) {
                row[to] = size[i];
                if (i + 1 < t && zeros > 0) {
                    int run = code(E_RUN, RUN_TABLE + (zeros < 7 ? zeros : 7));
                    if (run > zeros) {
                        failHere(WRONG);
                    }
                    zeros -= run;
                    to -= run;
                }
                to--;
            }
        }
    }

    /** Writes UNITS to what is MADE, by TABLES or by ARITH. */
    private static final class Writer {
        byte[] made = new byte[4096];
        int length;
        int units;
        /** SKIPPED BLOCKS that are still to be told. */
        int run;

        private byte[] unit = new byte[4096];
        private int unitSize;
        private int held;
        private int heldBits;
        private boolean arith;
        private int low;
        private int range;
        private int owed;
        private boolean isFirst;
        private final int[] state = new int[Reader.STATES];
        private final int[] size = new int[16];
        private final int[] before = new int[16];
        private int zeros;
        private int prefix;
        private int suffix;
        private int suffixBits;

        void beginUnit(int first) {
            arith = false;
            isFirst = false;
            owed = 0;
            held = 0;
            heldBits = 0;
            unitSize = 1;
            unit[0] = (byte) first;
        }

        /** STOP, if it isn't there yet, bits 0 up to a whole byte; the UNIT is MADE. */
        void endUnit(boolean isStopped) {
            if (!isStopped) {
                put(1);
            }
            fill(0);
            putByte(0);
            putByte(0);
            putByte(0);
            putByte(1);
            int zeros = 0;
            for (int i = 0; i < unitSize; i++) {
                int v = unit[i] & 255;
                if (zeros >= 2 && v < 4) {
                    putByte(3);
                    zeros = 0;
                }
                putByte(v);
                zeros = v == 0 ? zeros + 1 : 0;
            }
            units++;
        }

        private void putByte(int v) {
            if (length >= made.length) {
                made = Arrays.copyOf(made, 2 * made.length);
            }
            made[length++] = (byte) v;
        }

        /** Bits of a kind up to a whole byte. */
        void fill(int bit) {
            for (int k = 0; k < 8 && heldBits > 0; k++) {
                put(bit);
            }
        }

        /** A bit, then as many of its contrary as are OWED; ARITH's very first one is left out. */
        private void put(int b) {
            for (int k = isFirst ? 1 : 0; k <= owed; k++) {
                held = held << 1 | (k == 0 ? b : 1 - b);
                heldBits++;
                if (heldBits == 8) {
                    if (unitSize >= unit.length) {
                        unit = Arrays.copyOf(unit, 2 * unit.length);
                    }
                    unit[unitSize++] = (byte) held;
                    held = 0;
                    heldBits = 0;
                }
            }
            isFirst = false;
            owed = 0;
        }

        /** The lowest n bits of a value, the highest first; in ARITH as decisions of the ELEMENT number e. */
        void code(int e, long value, int n) {
            for (int j = 0; j < n; j++) {
                int b = (int) (value >> (n - 1 - j)) & 1;
                if (!arith) {
                    put(b);
                    continue;
                }
                int i = 16 * e + (j < 15 ? j : 15);
                int s = state[i] >> 1;
                int likely = state[i] & 1;
                int r = Reader.LOWER[4 * s + (range >> 6 & 3)];
                range -= r;
                if (b == likely) {
                    s = s < 62 ? s + 1 : 62;
                } else {
                    low += range;
                    range = r;
                    likely = s == 0 ? b : likely;
                    s = Reader.DOWN[s];
                }
                state[i] = s << 1 | likely;
                widen();
            }
        }

        private void widen() {
            for (int k = 0; k < 9 && range < 256; k++) {
                if (low < 256) {
                    put(0);
                } else if (low >= 512) {
                    put(1);
                    low -= 512;
                } else {
                    owed++;
                    low -= 256;
                }
                range <<= 1;
                low <<= 1;
            }
        }

        void beginData() {
            fill(1);
            Arrays.fill(state, 0);
            beginArith();
        }

        private void beginArith() {
            low = 0;
            range = 510;
            owed = 0;
            isFirst = true;
            arith = true;
        }

        /** The END decision; behind 1 bits are plain. */
        void last(boolean isLast) {
            range -= 2;
            if (isLast) {
                low += range;
                range = 2;
            }
            widen();
            if (isLast) {
                put(low >> 9 & 1);
                put(low >> 8 & 1);
                put(1);
                arith = false;
            }
        }

        /** What follows the type of a RAW BLOCK. */
        void rawSamples(int[] samples) {
            boolean wasArith = arith;
            if (wasArith) {
                last(true);
            }
            fill(0);
            for (int i = 0; i < 384 && i < samples.length; i++) {
                code(0, samples[i], 8);
            }
            if (wasArith) {
                beginArith();
            }
        }

        static int bitsOfUe(int v) {
            int z = 0;
            while (z < 31 && (v + 1L) >> (z + 1) > 0) {
                z++;
            }
            return 2 * z + 1;
        }

        static int indexOfSe(int v) {
            return v > 0 ? 2 * v - 1 : -2 * v;
        }

        static int bitsOfTe(int most, int v) {
            return most == 1 ? 1 : bitsOfUe(v);
        }

        void ue(int e, int v) {
            code(e, v + 1L, bitsOfUe(v));
        }

        void se(int e, int v) {
            int k = indexOfSe(v);
            code(e, k + 1L, bitsOfUe(k));
        }

        void te(int e, int most, int v) {
            if (most == 1) {
                code(e, 1 - v, 1);
            } else {
                code(e, v + 1L, bitsOfUe(v));
            }
        }

        /** LEVELS of n of a row at a place, TOKEN by a table (3: u(6)). */
        void levels(int table, int n, int[] row, int at) {
            int t = collect(row, n == 15 ? at + 1 : at, n);
            int ones = countOnes(t);
            int tokens = table == 4 ? 3 : table;
            int number = t < 3 ? t * (t + 1) / 2 + ones : 4 * t - 6 + ones;
            if (table == 3) {
                code(E_TOKEN, t == 0 ? 3 : 4 * (t - 1) + ones, 6);
            } else {
                code(E_TOKEN, Reader.valueOf(tokens, number), Reader.lengthOf(tokens, number));
            }
            int s = t > 10 && ones < 3 ? 1 : 0;
            for (int i = 0; i < t; i++) {
                if (i < ones) {
                    code(E_ONES, size[i] < 0 ? 1 : 0, 1);
                    continue;
                }
                cut(s, size[i], i == ones && ones < 3);
                code(E_PREFIX, 1, prefix + 1);
                code(E_SUFFIX, suffix, suffixBits);
                s = s == 0 ? 1 : s;
                s = s < 6 && Math.abs(size[i]) > 3 << (s - 1) ? s + 1 : s;
            }
            if (t > 0 && t < n) {
                int tables = (n == 4 ? Reader.EVEN_ZEROS_TABLE : Reader.ZEROS_TABLE) + t;
                code(E_ZEROS, Reader.valueOf(tables, zeros), Reader.lengthOf(tables, zeros));
            }
            for (int i = 0; i + 1 < t && zeros > 0; i++) {
                int runs = Reader.RUN_TABLE + (zeros < 7 ? zeros : 7);
                code(E_RUN, Reader.valueOf(runs, before[i]), Reader.lengthOf(runs, before[i]));
                zeros -= before[i];
            }
        }

        /** The LEVELS that aren't 0, by descending places, and the zeros before each; answers how many. */
        private int collect(int[] row, int from, int n) {
            int t = 0;
            zeros = 0;
            for (int i = from + n - 1; i >= from; i--) {
                if (row[i] != 0) {
                    size[t] = row[i];
                    before[t] = 0;
                    t++;
                } else if (t > 0) {
                    before[t - 1]++;
                    zeros++;
                }
            }
            return t;
        }

        private int countOnes(int t) {
            int ones = 0;
            while (ones < 3 && ones < t && Math.abs(size[ones]) == 1) {
                ones++;
            }
            return ones;
        }

        /** Cuts a LEVEL into its prefix, the least that can tell it, and the rest. */
        private void cut(int s, int level, boolean isMore) {
            int v = level > 0 ? 2 * level - 2 : -2 * level - 1;
            v -= isMore ? 2 : 0;
            prefix = 15;
            suffixBits = 12;
            suffix = v - (s == 0 ? 30 : 15 << s);
            if (s == 0 && v < 30) {
                prefix = v < 14 ? v : 14;
                suffixBits = v < 14 ? 0 : 4;
                suffix = v < 14 ? 0 : v - 14;
            } else if (s > 0 && v < 15 << s) {
                prefix = v >> s;
                suffixBits = s;
                suffix = v & (1 << s) - 1;
            }
        }
    }

    /** A SLICE's HEADER: what slice() tells of it, and the rest. */
    private static final class Header {
        static final int FIRST = 0;
        static final int SORT = 1;
        static final int PARAMETERS = 2;
        static final int FRAME = 3;
        static final int OWN_ID = 4;
        static final int LOW = 5;
        static final int D0 = 6;
        static final int D1 = 7;
        static final int SPACE = 8;
        static final int N0 = 9;
        static final int N1 = 10;
        static final int REF = 11;
        static final int STEP = 12;
        static final int OFF = 13;
        static final int A = 14;
        static final int B = 15;
        static final int DONE = 16;
        static final int ORDER = 17;
        static final int TYPE = 18;
        static final int DROP = 19;
        static final int LONG = 20;
        static final int FRAME_PLACE = 21;
        static final int SHIFT = 22;
        static final int COLOUR_SHIFT = 23;
        static final int OPS = 24;
        static final int MOVES0 = 25;
        static final int MOVES1 = 26;
        static final int MOST_MOVES = 8;
        static final int MOST_OPS = 12;

        final int[] v = new int[27];
        /** op and x of each move, list 0 first. */
        final int[] move = new int[2 * 2 * MOST_MOVES];
        /** op, x and y of each. */
        final int[] op = new int[3 * MOST_OPS];
        /** w and o by list, entry and plane. */
        final int[] weight = new int[2 * 8 * 3 * 2];

        static int weightAt(int list, int entry, int plane) {
            return 2 * (3 * (8 * list + entry) + plane);
        }

        void clearWeights() {
            for (int i = 0; i < 48; i++) {
                weight[2 * i] = 1 << (i % 3 == 0 ? v[SHIFT] : v[COLOUR_SHIFT]);
                weight[2 * i + 1] = 0;
            }
        }

        void copyFrom(Header other) {
            System.arraycopy(other.v, 0, v, 0, v.length);
            System.arraycopy(other.op, 0, op, 0, op.length);
        }

        boolean isOwn() {
            return v[TYPE] == 5;
        }

        /** Whether this SLICE begins another PICTURE than that of the SLICE before. */
        boolean beginsBehind(Header before) {
            int[] u = before.v;
            return v[FIRST] == 0 || v[TYPE] != u[TYPE] || v[FRAME] != u[FRAME] || v[PARAMETERS] != u[PARAMETERS]
                    || (v[REF] == 0) != (u[REF] == 0) || v[OWN_ID] != u[OWN_ID] || v[LOW] != u[LOW]
                    || v[D0] != u[D0] || v[D1] != u[D1];
        }
    }

    /** A PICTURE: its samples, what it is in the STORE, and how its pieces refer to others. */
    private static final class Picture {
        static final int NONE = 0;
        static final int SHORT = 1;
        static final int LONG = 2;
        static final int MOST_PIECES = 16 * MOST_BLOCKS;

        /** Tells PICTURES apart, for as long as others refer to this one. */
        int id;
        /** In BLOCKS. */
        int width;
        int height;
        final int[] crop = new int[4];
        final int[][] plane = new int[3][0];
        /** Each piece's reference (-1), the id of that PICTURE (0) and VECTOR, list 0 first. */
        final int[] reference = new int[2 * MOST_PIECES];
        final int[] referenceId = new int[2 * MOST_PIECES];
        final int[] move = new int[4 * MOST_PIECES];
        int frame;
        int order;
        int use;
        int number;
        boolean isWaiting;
        boolean isMadeUp;
        boolean isTrusted;
        int sort;
        int ref;
        int mended;

        static int at(int list, int piece) {
            return MOST_PIECES * list + piece;
        }

        void become(int newId, int wide, int high) {
            id = newId;
            width = wide;
            height = high;
            int need = 256 * wide * high;
            if (plane[0].length < need) {
                // a row that was too small once is made for all sizes, so that rows are made twice at most
                int size = plane[0].length == 0 ? need : 256 * MOST_BLOCKS;
                plane[0] = new int[size];
                plane[1] = new int[size / 4];
                plane[2] = new int[size / 4];
            }
            Arrays.fill(crop, 0);
            Arrays.fill(reference, -1);
            Arrays.fill(referenceId, 0);
            Arrays.fill(move, 0);
            frame = 0;
            order = 0;
            use = NONE;
            number = -1;
            isWaiting = false;
            isMadeUp = false;
            isTrusted = true;
            sort = -1;
            ref = 0;
            mended = 0;
        }

        int blocks() {
            return width * height;
        }

        int wide(int p) {
            return p == 0 ? 16 * width : 8 * width;
        }

        int high(int p) {
            return p == 0 ? 16 * height : 8 * height;
        }

        /** A sample, outside the nearest one. */
        int nearest(int p, int x, int y) {
            int wide = wide(p);
            int at = clamp(0, high(p) - 1, y) * wide + clamp(0, wide - 1, x);
            return at < 0 || at >= plane[p].length ? 0 : plane[p][at];
        }

        void copySamples(Picture from) {
            boolean fits = from != null && from.width == width && from.height == height;
            for (int p = 0; p < 3; p++) {
                int n = wide(p) * high(p);
                if (fits && n <= from.plane[p].length && n <= plane[p].length) {
                    System.arraycopy(from.plane[p], 0, plane[p], 0, n);
                } else {
                    Arrays.fill(plane[p], 128);
                }
            }
        }

        int told(int what) {
            switch (what) {
                case 0:
                    return frame;
                case 1:
                    return order;
                case 2:
                    return use;
                case 3:
                    return number;
                case 4:
                    return isWaiting ? 1 : 0;
                case 5:
                    return isMadeUp ? 1 : 0;
                default:
                    return isTrusted ? 1 : 0;
            }
        }

        /** By which list a piece refers, list 0 first; -1 if it doesn't. */
        int listOf(int piece) {
            return reference[piece] >= 0 ? 0 : reference[MOST_PIECES + piece] >= 0 ? 1 : -1;
        }

        boolean movesAlike(int a, int b) {
            for (int list = 0; list < 2; list++) {
                int p = at(list, a);
                int q = at(list, b);
                if (reference[p] != reference[q] || move[2 * p] != move[2 * q]
                        || move[2 * p + 1] != move[2 * q + 1]) {
                    return false;
                }
            }
            return true;
        }

        /** Whether pieces have other PICTURES, another number of VECTORS, or VECTORS too far apart. */
        boolean movesApart(int a, int b) {
            int a0 = referenceId[a];
            int a1 = referenceId[MOST_PIECES + a];
            int b0 = referenceId[b];
            int b1 = referenceId[MOST_PIECES + b];
            boolean isStraight = a0 == b0 && a1 == b1;
            boolean isCrossed = a0 == b1 && a1 == b0;
            boolean straightApart = a0 != 0 && farApart(a, b) || a1 != 0 && farApart(MOST_PIECES + a, MOST_PIECES + b);
            boolean crossedApart = a0 != 0 && farApart(a, MOST_PIECES + b) || a1 != 0 && farApart(MOST_PIECES + a, b);
            return (!isStraight || straightApart) && (!isCrossed || crossedApart);
        }

        private boolean farApart(int p, int q) {
            int x = move[2 * p] - move[2 * q];
            int y = move[2 * p + 1] - move[2 * q + 1];
            return x >= 4 || x <= -4 || y >= 4 || y <= -4;
        }
    }

    /** The STORE: kept PICTURES, lists of them, marks, ORDER, and what is put out. */
    private static final class Store {
        static final int MOST_KEPT = 6;
        static final int FACTS = 7;

        private final Picture[] pool = new Picture[MOST_KEPT + 4];
        private int lastId;
        final Picture[] kept = new Picture[MOST_KEPT];
        int count;
        /** LONG numbers below this one may be. */
        private int longNumbers;
        int last;
        /** The PICTURE that ended last, and the latest REFERENCE that isn't made up. */
        Picture ended;
        private Picture latestReference;
        private int highBefore;
        private int lowBefore;
        private int turnBefore;
        private int frameBefore;
        private int high;
        private int turn;
        int outputs;
        private final int[][] outSample = new int[MOST_OUTPUTS][0];
        private final int[] outFact = new int[MOST_OUTPUTS * FACTS];

        void clear() {
            for (int i = 0; i < MOST_KEPT; i++) {
                kept[i] = null;
            }
            count = 0;
            longNumbers = 0;
            last = 0;
            ended = null;
            latestReference = null;
            highBefore = 0;
            lowBefore = 0;
            turnBefore = 0;
            frameBefore = 0;
            outputs = 0;
        }

        /** A PICTURE that nothing needs any more. */
        Picture fresh(int wide, int high) {
            int free = 0;
            for (int i = 0; i < pool.length; i++) {
                if (pool[i] == null) {
                    pool[i] = new Picture();
                }
                if (!isNeeded(pool[i])) {
                    free = i;
                    break;
                }
            }
            lastId++;
            pool[free].become(lastId, wide, high);
            return pool[free];
        }

        private boolean isNeeded(Picture p) {
            for (int i = 0; i < count; i++) {
                if (kept[i] == p) {
                    return true;
                }
            }
            return p == ended || p == latestReference;
        }

        /** ORDER of the PICTURE that begins with this HEADER. */
        int orderOf(Header h, int[] s) {
            int[] v = h.v;
            boolean own = h.isOwn();
            int less = v[Header.REF] == 0 ? 1 : 0;
            high = 0;
            turn = own ? 0 : turnBefore + (frameBefore > v[Header.FRAME] ? 1 << s[S_FRAME] : 0);
            if (s[S_KIND] == 0) {
                return orderByLow(v, 1 << s[S_LOW], own);
            }
            if (s[S_KIND] == 2) {
                return own ? 0 : 2 * (turn + v[Header.FRAME]) - less;
            }
            int n = s[S_TURNS];
            int a = n == 0 ? 0 : turn + v[Header.FRAME];
            a -= a > 0 ? less : 0;
            int e = 0;
            if (a > 0 && n > 0) {
                int all = 0;
                int some = 0;
                for (int i = 0; i < n && S_TURN + i < S_THERE; i++) {
                    all += s[S_TURN + i];
                    some += i <= (a - 1) % n ? s[S_TURN + i] : 0;
                }
                e = (a - 1) / n * all + some;
            }
            e += less == 1 ? s[S_APART] : 0;
            int first = e + v[Header.D0];
            int second = first + s[S_BELOW] + v[Header.D1];
            return first < second ? first : second;
        }

        private int orderByLow(int[] v, int m, boolean own) {
            int low = own ? 0 : lowBefore;
            high = own ? 0 : highBefore;
            if (low - v[Header.LOW] >= m / 2) {
                high += m;
            } else if (v[Header.LOW] - low > m / 2) {
                high -= m;
            }
            int first = high + v[Header.LOW];
            int second = first + v[Header.D0];
            return first < second ? first : second;
        }

        private static int frameNumber(Picture p, int frame, int m) {
            return p.frame > frame ? p.frame - m : p.frame;
        }

        /** The lists of a SLICE before its moves. */
        void makeLists(Work work, int m) {
            int[] v = work.head.v;
            Picture[] lists = work.lists;
            for (int i = 0; i < lists.length; i++) {
                lists[i] = null;
            }
            if (v[Header.SORT] == SORT_P) {
                int n = gather(work, 0, 0, 0, m);
                gather(work, 0, n, 3, m);
            } else if (v[Header.SORT] == SORT_B) {
                int n = gather(work, 0, 0, 1, m);
                n = gather(work, 0, n, 2, m);
                gather(work, 0, n, 3, m);
                n = gather(work, 9, 0, 2, m);
                n = gather(work, 9, n, 1, m);
                n = gather(work, 9, n, 3, m);
                tellApart(lists, n);
            }
            for (int i = 0; i < 9; i++) {
                lists[i] = i < v[Header.N0] ? lists[i] : null;
                lists[9 + i] = i < v[Header.N1] ? lists[9 + i] : null;
            }
        }

        /** List 1 of more than one entry must not be the same as list 0. */
        private static void tellApart(Picture[] lists, int n) {
            for (int i = 0; i < n && i < 9; i++) {
                if (lists[i] != lists[9 + i]) {
                    return;
                }
            }
            if (n > 1) {
                Picture first = lists[9];
                lists[9] = lists[10];
                lists[10] = first;
            }
        }

        /**
         * Puts references behind those that a list has. Ways: 0 SHORT by FRAMENUM, 1 SHORT of lesser ORDER,
         * 2 SHORT of greater ORDER, 3 LONG. Answers how many the list has then.
         */
        private int gather(Work work, int list, int had, int way, int m) {
            Picture[] lists = work.lists;
            Picture now = work.pic;
            int n = had;
            for (int i = 0; i < count; i++) {
                Picture p = kept[i];
                if (n > 8 || !belongs(p, now, way)) {
                    continue;
                }
                long key = keyOf(p, now, way, m);
                int at = list + n;
                while (at > list + had && keyOf(lists[at - 1], now, way, m) > key) {
                    lists[at] = lists[at - 1];
                    at--;
                }
                lists[at] = p;
                n++;
            }
            return n;
        }

        private static boolean belongs(Picture p, Picture now, int way) {
            if (way == 3) {
                return p.use == Picture.LONG;
            }
            return p.use == Picture.SHORT
                    && (way == 0 || way == 1 && p.order < now.order || way == 2 && p.order > now.order);
        }

        private static long keyOf(Picture p, Picture now, int way, int m) {
            if (way == 3) {
                return p.number;
            }
            long order = way == 0 ? 0 : way == 1 ? -(long) p.order : p.order;
            return order * (1 << 20) - frameNumber(p, now.frame, m);
        }

        /** Carries out the moves of a list; false where one can't be. */
        boolean moveList(Work work, int list, int m) {
            Header h = work.head;
            int n = h.v[Header.N0 + list];
            int p = h.v[Header.FRAME];
            for (int i = 0; i < h.v[Header.MOVES0 + list]; i++) {
                if (i >= n || n > 8) {
                    return false;
                }
                int op = h.move[2 * (Header.MOST_MOVES * list + i)];
                int x = h.move[2 * (Header.MOST_MOVES * list + i) + 1];
                if (op < 2) {
                    p = (op == 0 ? p - (x + 1) : p + (x + 1)) & m - 1;
                }
                Picture found = op == 2 ? latestLong(x) : latestShort(p);
                if (found == null) {
                    return false;
                }
                moveTo(work.lists, 9 * list, i, n, found);
            }
            return true;
        }

        private static void moveTo(Picture[] lists, int base, int place, int n, Picture found) {
            for (int i = n; i > place; i--) {
                lists[base + i] = lists[base + i - 1];
            }
            lists[base + place] = found;
            int to = place + 1;
            for (int i = place + 1; i <= n; i++) {
                if (lists[base + i] != found) {
                    lists[base + to] = lists[base + i];
                    to++;
                }
            }
            for (int i = to; i <= n; i++) {
                lists[base + i] = null;
            }
            lists[base + n] = null;
        }

        private Picture latestShort(int frame) {
            for (int i = count - 1; i >= 0; i--) {
                if (kept[i].use == Picture.SHORT && kept[i].frame == frame) {
                    return kept[i];
                }
            }
            return null;
        }

        private Picture latestLong(int number) {
            for (int i = count - 1; i >= 0; i--) {
                if (kept[i].use == Picture.LONG && kept[i].number == number) {
                    return kept[i];
                }
            }
            return null;
        }

        private static void release(Picture p) {
            p.use = Picture.NONE;
            p.number = -1;
        }

        private int references() {
            int n = 0;
            for (int i = 0; i < count; i++) {
                n += kept[i].use != Picture.NONE ? 1 : 0;
            }
            return n;
        }

        private void releaseAll() {
            for (int i = 0; i < count; i++) {
                release(kept[i]);
            }
        }

        /** The SHORT one with the least FRAMENUM; null without. */
        private Picture leastShort(int frame, int m) {
            Picture least = null;
            for (int i = 0; i < count; i++) {
                Picture p = kept[i];
                if (p.use == Picture.SHORT
                        && (least == null || frameNumber(p, frame, m) < frameNumber(least, frame, m))) {
                    least = p;
                }
            }
            return least;
        }

        private Picture leastLong() {
            Picture least = null;
            for (int i = 0; i < count; i++) {
                if (kept[i].use == Picture.LONG && (least == null || kept[i].number < least.number)) {
                    least = kept[i];
                }
            }
            return least;
        }

        /** SLIDING. */
        private void slide(int frame, int m, int refs) {
            Picture least = leastShort(frame, m);
            if (references() >= refs && least != null) {
                release(least);
            }
        }

        /** What is neither a reference nor WAITING goes. */
        private void sweep() {
            int n = 0;
            for (int i = 0; i < count; i++) {
                Picture p = kept[i];
                if (p.use != Picture.NONE || p.isWaiting) {
                    kept[n] = p;
                    n++;
                }
            }
            for (int i = n; i < count; i++) {
                kept[i] = null;
            }
            count = n;
        }

        private static int leastRefs(int[] s) {
            return s[S_REFS] < 1 ? 1 : s[S_REFS];
        }

        /** A PICTURE ends: marks by its first SLICE; answers whether op 5 was among them. OUT comes next. */
        boolean accept(Picture pic, Header h, int[] s) {
            int[] v = h.v;
            boolean own = h.isOwn();
            boolean isReference = v[Header.REF] != 0;
            boolean wiped = false;
            if (isReference) {
                wiped = mark(pic, h, 1 << s[S_FRAME], leastRefs(s));
                sweep();
                latestReference = pic;
                highBefore = wiped ? 0 : high;
                lowBefore = wiped ? 0 : v[Header.LOW];
            }
            if (wiped) {
                pic.order = 0;
                pic.frame = 0;
            }
            frameBefore = pic.frame;
            turnBefore = wiped ? 0 : turn;
            if (own || isReference) {
                last = pic.frame;
            }
            ended = pic;
            return wiped;
        }

        /** Answers whether op 5 was among the ops. */
        private boolean mark(Picture pic, Header h, int m, int refs) {
            boolean wiped = false;
            if (h.isOwn()) {
                releaseAll();
                longNumbers = h.v[Header.LONG];
                if (h.v[Header.LONG] == 1) {
                    pic.use = Picture.LONG;
                    pic.number = 0;
                }
            } else if (h.v[Header.OPS] == 0) {
                slide(pic.frame, m, refs);
            }
            for (int i = 0; i < h.v[Header.OPS] && !h.isOwn(); i++) {
                int op = h.op[3 * i];
                wiped = wiped || op == 5;
                operate(pic, op, h.op[3 * i + 1], h.op[3 * i + 2], m);
            }
            if (pic.use != Picture.LONG) {
                pic.use = Picture.SHORT;
            }
            for (int i = 0; i < MOST_KEPT && references() + 1 > refs; i++) {
                Picture least = leastShort(pic.frame, m);
                least = least == null ? leastLong() : least;
                if (least != null) {
                    release(least);
                }
            }
            return wiped;
        }

        private void operate(Picture pic, int op, int x, int y, int m) {
            switch (op) {
                case 1:
                    Picture gone = shortByNumber(pic.frame, pic.frame - (x + 1), m);
                    if (gone != null) {
                        release(gone);
                    }
                    break;
                case 2:
                    releaseLong(x);
                    break;
                case 3:
                    Picture found = shortByNumber(pic.frame, pic.frame - (x + 1), m);
                    if (found != null && y < longNumbers) {
                        releaseLong(y);
                        found.use = Picture.LONG;
                        found.number = y;
                    }
                    break;
                case 4:
                    longNumbers = x;
                    for (int i = 0; i < count; i++) {
                        if (kept[i].use == Picture.LONG && kept[i].number >= x) {
                            release(kept[i]);
                        }
                    }
                    break;
                case 5:
                    releaseAll();
                    longNumbers = 0;
                    break;
                default:
                    if (x < longNumbers) {
                        releaseLong(x);
                        pic.use = Picture.LONG;
                        pic.number = x;
                    }
                    break;
            }
        }

        private Picture shortByNumber(int frame, int number, int m) {
            for (int i = 0; i < count; i++) {
                if (kept[i].use == Picture.SHORT && frameNumber(kept[i], frame, m) == number) {
                    return kept[i];
                }
            }
            return null;
        }

        private void releaseLong(int number) {
            for (int i = 0; i < count; i++) {
                if (kept[i].use == Picture.LONG && kept[i].number == number) {
                    release(kept[i]);
                    return;
                }
            }
        }

        private Picture nextOut() {
            Picture next = null;
            for (int i = 0; i < count; i++) {
                if (kept[i].isWaiting && (next == null || kept[i].order < next.order)) {
                    next = kept[i];
                }
            }
            return next;
        }

        void putOutAll() {
            for (int i = 0; i < MOST_KEPT; i++) {
                Picture next = nextOut();
                if (next != null) {
                    putOut(next);
                }
            }
            sweep();
        }

        /** OUT; first is whether all WAITING ones go before it, drop whether they go unseen. */
        void putAway(Picture pic, boolean first, boolean drop) {
            for (int i = 0; i < count && drop; i++) {
                kept[i].isWaiting = false;
            }
            if (first) {
                putOutAll();
            }
            Picture next = nextOut();
            if (pic.use == Picture.NONE && (next == null || next.order >= pic.order)) {
                putOut(pic);
                return;
            }
            makeRoom();
            pic.isWaiting = true;
            keep(pic);
        }

        private void keep(Picture pic) {
            if (count < MOST_KEPT) {
                kept[count] = pic;
                count++;
            }
        }

        private void makeRoom() {
            for (int i = 0; i < 2 * MOST_KEPT && count >= MOST_KEPT; i++) {
                Picture next = nextOut();
                if (next != null) {
                    putOut(next);
                } else {
                    release(kept[0]);
                }
                sweep();
            }
        }

        /** A GAP's PICTURE. */
        void makeUp(int frame, int[] s) {
            slide(frame, 1 << s[S_FRAME], leastRefs(s));
            sweep();
            makeRoom();
            Picture pic = fresh(s[S_WIDTH], s[S_HEIGHT]);
            pic.copySamples(latestReference);
            pic.frame = frame;
            pic.use = Picture.SHORT;
            pic.isMadeUp = true;
            pic.isTrusted = false;
            keep(pic);
            last = frame;
        }

        /** The coder's part of a PICTURE's end: a REFERENCE is stored, nothing waits. */
        void acceptCoded(Picture pic, Header h, int[] s) {
            if (h.v[Header.REF] != 0) {
                mark(pic, h, 1 << s[S_FRAME], leastRefs(s));
                sweep();
                keep(pic);
            }
        }

        int shorts() {
            int n = 0;
            for (int i = 0; i < count; i++) {
                n += kept[i].use == Picture.SHORT ? 1 : 0;
            }
            return n;
        }

        private void putOut(Picture pic) {
            pic.isWaiting = false;
            if (outputs < MOST_OUTPUTS) {
                noteFacts(pic, FACTS * outputs);
                copyOut(pic, outputs);
            }
            outputs++;
        }

        private void noteFacts(Picture pic, int at) {
            outFact[at] = 16 * pic.width - 2 * (pic.crop[0] + pic.crop[1]);
            outFact[at + 1] = 16 * pic.height - 2 * (pic.crop[2] + pic.crop[3]);
            outFact[at + 2] = pic.order;
            outFact[at + 3] = pic.sort;
            outFact[at + 4] = pic.ref;
            outFact[at + 5] = pic.isTrusted ? 1 : 0;
            outFact[at + 6] = pic.mended;
        }

        private void copyOut(Picture pic, int k) {
            int need = wide(k, 0) * high(k, 0) * 3 / 2;
            if (outSample[k].length < need) {
                outSample[k] = new int[outSample[k].length == 0 ? need : 384 * MOST_BLOCKS];
            }
            int to = 0;
            for (int p = 0; p < 3; p++) {
                int unit = p == 0 ? 2 : 1;
                int wide = wide(k, p);
                int row = pic.wide(p);
                int from = unit * pic.crop[2] * row + unit * pic.crop[0];
                for (int y = 0; y < high(k, p); y++) {
                    if (from + wide <= pic.plane[p].length && to + wide <= outSample[k].length) {
                        System.arraycopy(pic.plane[p], from, outSample[k], to, wide);
                    }
                    from += row;
                    to += wide;
                }
            }
        }

        boolean keeps(int k) {
            return k >= 0 && k < outputs && k < MOST_OUTPUTS;
        }

        int fact(int k, int what) {
            return outFact[FACTS * k + what];
        }

        int wide(int k, int plane) {
            return plane == 0 ? outFact[FACTS * k] : outFact[FACTS * k] / 2;
        }

        int high(int k, int plane) {
            return plane == 0 ? outFact[FACTS * k + 1] : outFact[FACTS * k + 1] / 2;
        }

        private int planeAt(int k, int plane) {
            int luma = wide(k, 0) * high(k, 0);
            return plane == 0 ? 0 : plane == 1 ? luma : luma + luma / 4;
        }

        int sampleAt(int k, int i) {
            return i < 0 || i >= outSample[k].length ? 0 : outSample[k][i];
        }

        int sampleOf(int k, int plane, int x, int y) {
            return sampleAt(k, planeAt(k, plane) + y * wide(k, plane) + x);
        }

        int sumOf(int k, int plane) {
            return hash(outSample[k], planeAt(k, plane), wide(k, plane) * high(k, plane));
        }
    }

    /** The PICTURE under way: its BLOCKS, their NEIGHBOURS, and VECTORS. */
    private static final class Work {
        /** What stands where in a BLOCK's row, as block() tells it. */
        static final int KIND = 0;
        static final int TYPE = 1;
        static final int STEP = 2;
        static final int LUMA = 3;
        static final int CHROMA = 4;
        static final int COLOURS = 5;
        static final int SLICE = 6;
        /** What of the BLOCKS around may be predicted from. */
        static final int LEFT = 1;
        static final int ABOVE = 2;
        static final int CORNER = 4;
        static final int BEHIND = 8;
        static final int[] SUB_SHAPE = {0, 0, 0, 0, 1, 2, 1, 2, 1, 2, 3, 3, 3};
        static final int[] SUB_USE = {0, 1, 2, 3, 1, 1, 2, 2, 3, 3, 1, 2, 3};
        /** Which lists (1, 2, both 3) the two parts of B types 4, 6, .. 20 use. */
        static final int[] PAIR_USE = {1, 1, 2, 2, 1, 2, 2, 1, 1, 3, 2, 3, 3, 1, 3, 2, 3, 3};

        Picture pic;
        Header head;
        int[] par;
        /** Nine places for each list, the last one for moves alone. */
        final Picture[] lists = new Picture[18];
        final int[] entryThere = new int[18];
        final int[] entryOrder = new int[18];
        final int[] info = new int[8 * MOST_BLOCKS];
        final int[] mode = new int[16 * MOST_BLOCKS];
        /** TOTALS: 16 of luma, 4 and 4 of chroma. */
        final int[] total = new int[24 * MOST_BLOCKS];
        /** LEVELS: 16 rows of luma, EVEN 16, two EVEN 4, 4 and 4 of chroma. */
        final int[] level = new int[27 * 16 * MOST_BLOCKS];
        /** off, A and B by which a BLOCK's edges are filtered. */
        final int[] rule = new int[3 * MOST_BLOCKS];
        int sliceNumber;
        final int[] sub = new int[4];
        /** Of each part that has a VECTOR: first piece, width, height, lists, way of GUESS. */
        final int[] part = new int[16 * 5];
        int parts;
        /** Of each part that has a reference: first piece, width, height, lists. */
        final int[] group = new int[4 * 4];
        int groups;
        /** The coder's: what the VECTOR of each part is more than its GUESS, list 0 first. */
        final int[] difference = new int[2 * 2 * 16];
        /** The GUESS. */
        int guessX;
        int guessY;

        static int levelAt(int mb, int row) {
            return 16 * (27 * mb + row);
        }

        static int pieceX(int b) {
            return 8 * (b / 4 % 2) + 4 * (b % 2);
        }

        static int pieceY(int b) {
            return 8 * (b / 8) + 4 * (b / 2 % 2);
        }

        void begin(Picture picture) {
            pic = picture;
            sliceNumber = -1;
            for (int mb = 0; mb < MOST_BLOCKS; mb++) {
                clearBlock(mb);
            }
        }

        boolean hasBlock(int mb) {
            return pic != null && mb >= 0 && mb < pic.blocks() && mb < MOST_BLOCKS;
        }

        void clearBlock(int mb) {
            Arrays.fill(info, 8 * mb, 8 * mb + 8, 0);
            info[8 * mb + KIND] = MISSING;
            info[8 * mb + TYPE] = -1;
            info[8 * mb + SLICE] = -1;
            Arrays.fill(mode, 16 * mb, 16 * mb + 16, 2);
            Arrays.fill(total, 24 * mb, 24 * mb + 24, 0);
            Arrays.fill(level, levelAt(mb, 0), levelAt(mb + 1, 0), 0);
            Arrays.fill(rule, 3 * mb, 3 * mb + 3, 0);
            clearMoves(mb);
        }

        void clearMoves(int mb) {
            for (int list = 0; list < 2; list++) {
                int at = Picture.at(list, 16 * mb);
                Arrays.fill(pic.reference, at, at + 16, -1);
                Arrays.fill(pic.referenceId, at, at + 16, 0);
                Arrays.fill(pic.move, 2 * at, 2 * at + 32, 0);
            }
        }

        /** A BLOCK is whole. */
        void endBlock(int mb) {
            info[8 * mb + SLICE] = sliceNumber;
            rule[3 * mb] = head.v[Header.OFF];
            rule[3 * mb + 1] = head.v[Header.A];
            rule[3 * mb + 2] = head.v[Header.B];
            for (int list = 0; list < 2; list++) {
                for (int b = 0; b < 16; b++) {
                    int r = pic.reference[Picture.at(list, 16 * mb + b)];
                    if (r >= 0 && r < 9 && lists[9 * list + r] != null && !lists[9 * list + r].isTrusted) {
                        pic.isTrusted = false;
                    }
                }
            }
        }

        void noteEntries() {
            for (int i = 0; i < 18; i++) {
                entryThere[i] = lists[i] == null ? 0 : 1;
                entryOrder[i] = lists[i] == null ? 0 : lists[i].order;
            }
        }

        /**
         * The piece (16 times its BLOCK, and its number) at a place told from a BLOCK's left above; -1 if it
         * isn't THERE. Of the same BLOCK those before a limit are.
         */
        int pieceAt(int mb, int x, int y, int limit) {
            int column = mb % pic.width + (x < 0 ? -1 : x > 15 ? 1 : 0);
            int row = mb / pic.width - (y < 0 ? 1 : 0);
            if (column < 0 || column >= pic.width || row < 0) {
                return -1;
            }
            int other = row * pic.width + column;
            int b = (y >> 3 & 1) * 8 + (x >> 3 & 1) * 4 + (y >> 2 & 1) * 2 + (x >> 2 & 1);
            if (other == mb) {
                return b < limit ? 16 * mb + b : -1;
            }
            return other < mb && info[8 * other + SLICE] == sliceNumber ? 16 * other + b : -1;
        }

        /** Which of the BLOCKS around may be predicted from. */
        int sides(int mb) {
            return (mayUse(pieceAt(mb, -1, 0, 0)) ? LEFT : 0) | (mayUse(pieceAt(mb, 0, -1, 0)) ? ABOVE : 0)
                    | (mayUse(pieceAt(mb, -1, -1, 0)) ? CORNER : 0) | (mayUse(pieceAt(mb, 16, -1, 0)) ? BEHIND : 0);
        }

        private boolean mayUse(int piece) {
            return piece >= 0 && (par[P_OWN] == 0 || info[8 * (piece >> 4) + KIND] != BY_LISTS);
        }

        /** Which samples around a piece may be predicted from; BEHIND: above and behind it. */
        static int sidesOf(int b, int sides) {
            int x = pieceX(b);
            int y = pieceY(b);
            boolean left = x > 0 || (sides & LEFT) != 0;
            boolean above = y > 0 || (sides & ABOVE) != 0;
            boolean corner = x > 0 ? above : y > 0 ? left : (sides & CORNER) != 0;
            boolean behind = above;
            if (b == 5) {
                behind = (sides & BEHIND) != 0;
            } else if (b == 3 || b == 11 || b % 8 == 7 || b == 13) {
                behind = false;
            }
            return (left ? LEFT : 0) | (above ? ABOVE : 0) | (corner ? CORNER : 0) | (behind ? BEHIND : 0);
        }

        static boolean mayBeFour(int mode, int sides) {
            int needs = mode == 2 ? 0 : mode == 1 || mode == 8 ? LEFT : mode < 4 || mode == 7 ? ABOVE
                    : LEFT | ABOVE | CORNER;
            return (sides & needs) == needs;
        }

        static boolean mayBeSixteen(int mode, int sides) {
            int needs = mode == 0 ? ABOVE : mode == 1 ? LEFT : mode == 2 ? 0 : LEFT | ABOVE | CORNER;
            return (sides & needs) == needs;
        }

        static boolean mayBeColours(int mode, int sides) {
            int needs = mode == 0 ? 0 : mode == 1 ? LEFT : mode == 2 ? ABOVE : LEFT | ABOVE | CORNER;
            return (sides & needs) == needs;
        }

        /** The GUESS of a piece's mode. */
        int guessMode(int mb, int b) {
            int left = modeAt(pieceAt(mb, pieceX(b) - 1, pieceY(b), 16));
            int above = modeAt(pieceAt(mb, pieceX(b), pieceY(b) - 1, 16));
            return left < 0 || above < 0 ? 2 : left < above ? left : above;
        }

        private int modeAt(int piece) {
            if (piece < 0) {
                return -1;
            }
            int kind = info[8 * (piece >> 4) + KIND];
            if (par[P_OWN] == 1 && kind == BY_LISTS) {
                return -1;
            }
            return kind == FOUR ? mode[piece] : 2;
        }

        /** The table of TOKEN for a luma piece (0 .. 15) or one of chroma (16 ..). */
        int tokenTable(int mb, int i) {
            int left;
            int above;
            if (i < 16) {
                left = totalAt(pieceAt(mb, pieceX(i) - 1, pieceY(i), 16), -1);
                above = totalAt(pieceAt(mb, pieceX(i), pieceY(i) - 1, 16), -1);
            } else {
                left = totalAt(pieceAt(mb, i % 2 == 0 ? -1 : 0, 0, 16), i ^ 1);
                above = totalAt(pieceAt(mb, 0, i % 4 < 2 ? -1 : 0, 16), i ^ 2);
            }
            int n = left < 0 ? above : above < 0 ? left : left + above + 1 >> 1;
            return n < 2 ? 0 : n < 4 ? 1 : n < 8 ? 2 : 3;
        }

        /** TOTAL of a luma piece, or, of its BLOCK, of number i; -1 if it isn't THERE. */
        private int totalAt(int piece, int i) {
            return piece < 0 ? -1 : total[24 * (piece >> 4) + (i < 0 ? piece & 15 : i)];
        }

        /** Cuts a BLOCK by lists into its parts. */
        void plan(int sort, int type) {
            parts = 0;
            groups = 0;
            if (sort == SORT_P ? type > 2 : type == 22) {
                for (int q = 0; q < 4; q++) {
                    planQuarter(sort, q);
                }
                return;
            }
            int shape = sort == SORT_P ? type : type < 4 ? 0 : 1 + type % 2;
            int pair = type - 4 & ~1;
            int first = sort == SORT_P ? 1 : type < 4 ? type : PAIR_USE[pair];
            int second = sort == SORT_P || type < 4 ? first : PAIR_USE[pair + 1];
            if (shape == 0) {
                addGroup(0, 16, 16, first);
                addPart(0, 16, 16, 0);
            } else if (shape == 1) {
                addGroup(0, 16, 8, first);
                addPart(0, 16, 8, 1);
                addGroup(8, 16, 8, second);
                addPart(8, 16, 8, 2);
            } else {
                addGroup(0, 8, 16, first);
                addPart(0, 8, 16, 3);
                addGroup(4, 8, 16, second);
                addPart(4, 8, 16, 4);
            }
        }

        private void planQuarter(int sort, int q) {
            int s = sub[q];
            int shape = sort == SORT_P ? s : SUB_SHAPE[s];
            int use = sort == SORT_P ? 1 : SUB_USE[s];
            if (use == 0) {
                return;
            }
            addGroup(4 * q, 8, 8, use);
            int wide = shape > 1 ? 4 : 8;
            int high = shape % 2 == 1 ? 4 : 8;
            for (int i = 0; i < 4; i += shape == 1 ? 2 : 1) {
                if (shape == 0 && i > 0 || shape == 2 && i > 1) {
                    continue;
                }
                addPart(4 * q + i, wide, high, 0);
            }
        }

        private void addGroup(int b, int wide, int high, int use) {
            int at = 4 * groups;
            group[at] = b;
            group[at + 1] = wide;
            group[at + 2] = high;
            group[at + 3] = use;
            groups++;
        }

        /** A part of the latest group. */
        private void addPart(int b, int wide, int high, int way) {
            int at = 5 * parts;
            part[at] = b;
            part[at + 1] = wide;
            part[at + 2] = high;
            part[at + 3] = group[4 * groups - 1];
            part[at + 4] = way;
            parts++;
        }

        /** The reference of a group by a list, whose entry must be there. */
        void setReference(int mb, int list, int g, int r) {
            Picture entry = lists[9 * list + r];
            int left = pieceX(group[4 * g]);
            int top = pieceY(group[4 * g]);
            for (int b = 0; b < 16; b++) {
                int x = pieceX(b) - left;
                int y = pieceY(b) - top;
                if (x >= 0 && x < group[4 * g + 1] && y >= 0 && y < group[4 * g + 2]) {
                    int at = Picture.at(list, 16 * mb + b);
                    pic.reference[at] = r;
                    pic.referenceId[at] = entry == null ? 0 : entry.id;
                }
            }
        }

        void setMove(int mb, int list, int p, int moveX, int moveY) {
            int left = pieceX(part[5 * p]);
            int top = pieceY(part[5 * p]);
            for (int b = 0; b < 16; b++) {
                int x = pieceX(b) - left;
                int y = pieceY(b) - top;
                if (x >= 0 && x < part[5 * p + 1] && y >= 0 && y < part[5 * p + 2]) {
                    int at = 2 * Picture.at(list, 16 * mb + b);
                    pic.move[at] = moveX;
                    pic.move[at + 1] = moveY;
                }
            }
        }

        private void setQuarter(int mb, int list, int q, int r, int moveX, int moveY) {
            Picture entry = r < 0 ? null : lists[9 * list + r];
            for (int i = 0; i < 4; i++) {
                int at = Picture.MOST_PIECES * list + 16 * mb + 4 * q + i;
                pic.reference[at] = r;
                pic.referenceId[at] = entry == null ? 0 : entry.id;
                pic.move[2 * at] = moveX;
                pic.move[2 * at + 1] = moveY;
            }
        }

        private int referenceAt(int list, int piece) {
            return piece < 0 ? -1 : pic.reference[Picture.MOST_PIECES * list + piece];
        }

        /** The GUESS of the VECTOR of a part: its first piece, its width, its way. */
        void guess(int mb, int list, int r, int b, int wide, int way) {
            int x = pieceX(b);
            int y = pieceY(b);
            int left = pieceAt(mb, x - 1, y, b);
            int above = pieceAt(mb, x, y - 1, b);
            int behind = pieceAt(mb, x + wide, y - 1, b);
            behind = behind < 0 ? pieceAt(mb, x - 1, y - 1, b) : behind;
            boolean isLeft = referenceAt(list, left) == r;
            boolean isAbove = referenceAt(list, above) == r;
            boolean isBehind = referenceAt(list, behind) == r;
            int alike = (isLeft ? 1 : 0) + (isAbove ? 1 : 0) + (isBehind ? 1 : 0);
            if (way == 1 && isAbove) {
                adopt(list, above);
            } else if ((way == 2 || way == 3) && isLeft) {
                adopt(list, left);
            } else if (way == 4 && isBehind) {
                adopt(list, behind);
            } else if (above < 0 && behind < 0 && left >= 0) {
                adopt(list, left);
            } else if (alike == 1) {
                adopt(list, isLeft ? left : isAbove ? above : behind);
            } else {
                adoptMedian(list, left, above, behind);
            }
        }

        private void adopt(int list, int piece) {
            int at = 2 * (Picture.MOST_PIECES * list + piece);
            guessX = pic.move[at];
            guessY = pic.move[at + 1];
        }

        private void adoptMedian(int list, int left, int above, int behind) {
            int x = 0;
            int y = 0;
            int base = 2 * Picture.MOST_PIECES * list;
            for (int i = 0; i < 2; i++) {
                int a = left < 0 ? 0 : pic.move[base + 2 * left + i];
                int b = above < 0 ? 0 : pic.move[base + 2 * above + i];
                int c = behind < 0 ? 0 : pic.move[base + 2 * behind + i];
                int least = a < b ? a : b;
                int most = a < b ? b : a;
                int middle = c < least ? least : c > most ? most : c;
                x = i == 0 ? middle : x;
                y = middle;
            }
            guessX = x;
            guessY = y;
        }

        /** The VECTOR of a SKIPPED BLOCK of P. */
        void guessSkipped(int mb) {
            int left = pieceAt(mb, -1, 0, 0);
            int above = pieceAt(mb, 0, -1, 0);
            guessX = 0;
            guessY = 0;
            if (left >= 0 && above >= 0 && !isAtRest(left) && !isAtRest(above)) {
                guess(mb, 0, 0, 0, 16, 0);
            }
        }

        /** A BLOCK of P becomes a SKIPPED one. */
        void skip(int mb) {
            guessSkipped(mb);
            plan(SORT_P, 0);
            setReference(mb, 0, 0, 0);
            setMove(mb, 0, 0, guessX, guessY);
        }

        private boolean isAtRest(int piece) {
            return pic.reference[piece] == 0 && pic.move[2 * piece] == 0 && pic.move[2 * piece + 1] == 0;
        }

        /** DIRECT for the quarters of a mask; false where it is a FAULT. */
        boolean direct(int mb, int mask) {
            Picture back = lists[9];
            if (back == null) {
                return false;
            }
            if (head.v[Header.SPACE] == 0) {
                return directByTime(mb, mask, back);
            }
            int first = leastReference(mb, 0);
            int second = leastReference(mb, 1);
            boolean none = first < 0 && second < 0;
            for (int list = 0; list < 2; list++) {
                int r = none ? 0 : list == 0 ? first : second;
                guessX = 0;
                guessY = 0;
                if (r >= 0 && lists[9 * list + r] == null) {
                    return false;
                }
                if (r >= 0 && !none) {
                    guess(mb, list, r, 0, 16, 0);
                }
                for (int q = 0; q < 4; q++) {
                    boolean rests = r == 0 && !none && isStill(back, mb, q);
                    if ((mask >> q & 1) == 1) {
                        setQuarter(mb, list, q, r, rests ? 0 : guessX, rests ? 0 : guessY);
                    }
                }
            }
            return true;
        }

        private int leastReference(int mb, int list) {
            int behind = pieceAt(mb, 16, -1, 0);
            behind = behind < 0 ? pieceAt(mb, -1, -1, 0) : behind;
            int a = referenceAt(list, pieceAt(mb, -1, 0, 0));
            int b = referenceAt(list, pieceAt(mb, 0, -1, 0));
            int c = referenceAt(list, behind);
            int least = a < 0 || b >= 0 && b < a ? b : a;
            return least < 0 || c >= 0 && c < least ? c : least;
        }

        private static boolean isStill(Picture back, int mb, int q) {
            int corner = 16 * mb + 5 * q;
            if (back.use == Picture.LONG || mb >= back.blocks() || back.listOf(corner) < 0) {
                return false;
            }
            int at = Picture.at(back.listOf(corner), corner);
            int x = back.move[2 * at];
            int y = back.move[2 * at + 1];
            return back.reference[at] == 0 && x >= -1 && x <= 1 && y >= -1 && y <= 1;
        }

        private boolean directByTime(int mb, int mask, Picture back) {
            for (int q = 0; q < 4; q++) {
                if ((mask >> q & 1) == 0) {
                    continue;
                }
                int corner = 16 * mb + 5 * q;
                int list = mb < back.blocks() ? back.listOf(corner) : -1;
                int at = Picture.at(list < 0 ? 0 : list, corner);
                int r = list < 0 ? 0 : entryOf(back.referenceId[at]);
                if (r < 0 || lists[r] == null) {
                    return false;
                }
                int x = list < 0 ? 0 : back.move[2 * at];
                int y = list < 0 ? 0 : back.move[2 * at + 1];
                int td = timeBetween(lists[r].order, back.order);
                boolean isWhole = lists[r].use == Picture.LONG || td == 0;
                int k = isWhole ? 256 : scaleBy(timeBetween(lists[r].order, pic.order), td);
                int firstX = k * x + 128 >> 8;
                int firstY = k * y + 128 >> 8;
                setQuarter(mb, 0, q, r, firstX, firstY);
                setQuarter(mb, 1, q, 0, firstX - x, firstY - y);
            }
            return true;
        }

        /** The least entry of list 0 that is this PICTURE; -1 without. */
        private int entryOf(int id) {
            for (int i = 0; i < 8; i++) {
                if (lists[i] != null && lists[i].id == id) {
                    return i;
                }
            }
            return -1;
        }

        static int timeBetween(int from, int to) {
            int t = to - from;
            return t < -128 ? -128 : t > 127 ? 127 : t;
        }

        /** k, of 256, by the times tb and td; td must not be 0. */
        static int scaleBy(int tb, int td) {
            int tx = td == 0 ? 0 : (16384 + Math.abs(td / 2)) / td;
            int k = tb * tx + 32 >> 6;
            return k < -1024 ? -1024 : k > 1023 ? 1023 : k;
        }
    }

    /** Predicts samples, and adds what is left of them; for the coder also finds what is left. */
    private static final class Samples {
        static final int[] SCAN_X = {
            0, 1, 0, 0, 1, 2, 3, 2, 1, 0, 1, 2, 3, 3, 2, 3
        };
        static final int[] SCAN_Y = {
            0, 0, 1, 2, 1, 0, 0, 1, 2, 3, 3, 2, 1, 2, 3, 3
        };
        static final int[] NORM = {10, 13, 16, 11, 14, 18, 13, 16, 20, 14, 18, 23, 16, 20, 25, 18, 23, 29};
        static final int[] MEASURE = {
            13107, 8066, 5243, 11916, 7490, 4660, 10082, 6554, 4194, 9362, 5825, 3647, 8192, 5243, 3355,
            7282, 4559, 2893
        };
        static final int[] COLOUR_STEP = {
            29, 30, 31, 32, 32, 33, 34, 34, 35, 35, 36, 36, 37, 37, 37, 38, 38, 38, 39, 39, 39, 39
        };
        /** The window's row: 16 samples, and five around them. */
        private static final int ROW = 21;
        private static final int MOST_LEVEL = 2000;

        /** Luma 16 by 16, then both chroma planes 8 by 8: what is predicted; by list 0; by list 1. */
        final int[] guess = new int[384];
        private final int[] first = new int[384];
        private final int[] second = new int[384];
        private final int[] window = new int[ROW * ROW];
        private final int[] middle = new int[ROW * 16];
        /** References (-1 without) and VECTORS by which a region is predicted. */
        final int[] motion = new int[6];
        /** What is left of a piece, row by row, and the EVEN ones of a BLOCK. */
        private final int[] rest = new int[16];
        private final int[] even = new int[16];
        /** E of FOUR from -4 on, or T from -1 and L from -1 of larger ones. */
        private final int[] around = new int[34];
        private int weight;
        private int otherWeight;
        private int offset;
        private int otherOffset;
        private int shift;

        static int colourStep(int q, int apart) {
            int i = clamp(0, 51, q + apart);
            return i < 30 ? i : COLOUR_STEP[i - 30];
        }

        private static int normAt(int q, int x, int y) {
            return 3 * (q % 6) + ((x | y) % 2 == 0 ? 0 : (x & y) % 2 == 1 ? 2 : 1);
        }

        /** A whole BLOCK by its references and VECTORS. */
        void predictByLists(Work work, int mb) {
            boolean isOne = true;
            for (int b = 1; b < 16 && isOne; b++) {
                isOne = work.pic.movesAlike(16 * mb, 16 * mb + b);
            }
            if (isOne) {
                takeMotion(work.pic, 16 * mb);
                predictRegion(work, mb, 0, 16, true);
                return;
            }
            for (int q = 0; q < 4; q++) {
                int piece = 16 * mb + 4 * q;
                boolean isWhole = work.pic.movesAlike(piece, piece + 1) && work.pic.movesAlike(piece, piece + 2)
                        && work.pic.movesAlike(piece, piece + 3);
                for (int i = 0; i < (isWhole ? 1 : 4); i++) {
                    takeMotion(work.pic, piece + i);
                    predictRegion(work, mb, 4 * q + i, isWhole ? 8 : 4, true);
                }
            }
        }

        private void takeMotion(Picture pic, int piece) {
            for (int list = 0; list < 2; list++) {
                int at = Picture.at(list, piece);
                motion[3 * list] = pic.reference[at];
                motion[3 * list + 1] = pic.move[2 * at];
                motion[3 * list + 2] = pic.move[2 * at + 1];
            }
        }

        /** A square of a BLOCK from piece b on by the motion that is set. */
        void predictRegion(Work work, int mb, int b, int size, boolean isColoured) {
            int x = Work.pieceX(b);
            int y = Work.pieceY(b);
            int left = 16 * (mb % work.pic.width) + x;
            int top = 16 * (mb / work.pic.width) + y;
            int at = 16 * y + x;
            int colourAt = 256 + 4 * y + x / 2;
            for (int list = 0; list < 2; list++) {
                int r = motion[3 * list];
                Picture from = r < 0 || r > 8 ? null : work.lists[9 * list + r];
                if (from == null) {
                    continue;
                }
                int x4 = 4 * left + motion[3 * list + 1];
                int y4 = 4 * top + motion[3 * list + 2];
                predictLuma(from, x4, y4, size, list == 0 ? first : second, at);
                if (isColoured) {
                    predictColours(from, x4, y4, size / 2, list == 0 ? first : second, colourAt);
                }
            }
            for (int p = 0; p < (isColoured ? 3 : 1); p++) {
                int ways = chooseWeights(work, p);
                if (p == 0) {
                    blend(ways, at, 16, size);
                } else {
                    blend(ways, colourAt + 64 * (p - 1), 8, size / 2);
                }
            }
        }

        /** LUMA at a place in quarters of a sample, size by size. */
        private void predictLuma(Picture from, int x4, int y4, int size, int[] to, int at) {
            int dx = x4 & 3;
            int dy = y4 & 3;
            fillWindow(from, (x4 >> 2) - 2, (y4 >> 2) - 2, size + 5);
            boolean had = false;
            if (dy == 0 && dx != 2 || dx == 0 && dy != 2) {
                int base = (2 + (dy == 3 ? 1 : 0)) * ROW + 2 + (dx == 3 ? 1 : 0);
                for (int i = 0; i < size * size; i++) {
                    to[at + i / size * 16 + i % size] = window[base + i / size * ROW + i % size];
                }
                had = true;
            }
            if (dx != 0 && dy != 2) {
                tapRows(size, 2 + (dy == 3 ? 1 : 0), to, at, had);
                had = true;
            }
            if (dy != 0 && dx != 2) {
                tapColumns(size, 2 + (dx == 3 ? 1 : 0), to, at, had);
                had = true;
            }
            if (dx == 2 && dy != 0 || dy == 2 && dx != 0) {
                tapBoth(size, to, at, had);
            }
        }

        private void fillWindow(Picture from, int left, int top, int size) {
            int[] s = from.plane[0];
            int wide = 16 * from.width;
            int high = 16 * from.height;
            for (int j = 0; j < size; j++) {
                int y = top + j;
                int row = (y < 0 ? 0 : y >= high ? high - 1 : y) * wide;
                for (int i = 0; i < size; i++) {
                    int x = left + i;
                    window[j * ROW + i] = s[row + (x < 0 ? 0 : x >= wide ? wide - 1 : x)];
                }
            }
        }

        private void tapRows(int size, int row, int[] to, int at, boolean had) {
            int[] s = window;
            for (int i = 0; i < size * size; i++) {
                int k = (i / size + row) * ROW + i % size;
                int v = s[k] - 5 * s[k + 1] + 20 * s[k + 2] + 20 * s[k + 3] - 5 * s[k + 4] + s[k + 5] + 16 >> 5;
                v = v < 0 ? 0 : v > 255 ? 255 : v;
                int t = at + i / size * 16 + i % size;
                to[t] = had ? to[t] + v + 1 >> 1 : v;
            }
        }

        private void tapColumns(int size, int column, int[] to, int at, boolean had) {
            int[] s = window;
            for (int i = 0; i < size * size; i++) {
                int k = i / size * ROW + i % size + column;
                int v = s[k] - 5 * s[k + ROW] + 20 * s[k + 2 * ROW] + 20 * s[k + 3 * ROW] - 5 * s[k + 4 * ROW]
                        + s[k + 5 * ROW] + 16 >> 5;
                v = v < 0 ? 0 : v > 255 ? 255 : v;
                int t = at + i / size * 16 + i % size;
                to[t] = had ? to[t] + v + 1 >> 1 : v;
            }
        }

        private void tapBoth(int size, int[] to, int at, boolean had) {
            int[] s = window;
            for (int i = 0; i < size * (size + 5); i++) {
                int k = i / size * ROW + i % size;
                middle[i / size * 16 + i % size] = s[k] - 5 * s[k + 1] + 20 * s[k + 2] + 20 * s[k + 3]
                        - 5 * s[k + 4] + s[k + 5];
            }
            s = middle;
            for (int i = 0; i < size * size; i++) {
                int k = i / size * 16 + i % size;
                int v = s[k] - 5 * s[k + 16] + 20 * s[k + 32] + 20 * s[k + 48] - 5 * s[k + 64] + s[k + 80] + 512 >> 10;
                v = v < 0 ? 0 : v > 255 ? 255 : v;
                to[at + k] = had ? to[at + k] + v + 1 >> 1 : v;
            }
        }

        /** Both chroma planes at a place in eighths of a sample. */
        private void predictColours(Picture from, int x8, int y8, int size, int[] to, int at) {
            int wide = 8 * from.width;
            int high = 8 * from.height;
            int dx = x8 & 7;
            int dy = y8 & 7;
            for (int i = 0; i < size * size; i++) {
                int x = (x8 >> 3) + i % size;
                int y = (y8 >> 3) + i / size;
                int left = x < 0 ? 0 : x >= wide ? wide - 1 : x;
                int right = x < -1 ? 0 : x >= wide - 1 ? wide - 1 : x + 1;
                int top = (y < 0 ? 0 : y >= high ? high - 1 : y) * wide;
                int below = (y < -1 ? 0 : y >= high - 1 ? high - 1 : y + 1) * wide;
                for (int p = 1; p < 3; p++) {
                    int[] s = from.plane[p];
                    int sum = (8 - dx) * (8 - dy) * s[top + left] + dx * (8 - dy) * s[top + right]
                            + (8 - dx) * dy * s[below + left] + dx * dy * s[below + right];
                    to[at + 64 * (p - 1) + i / size * 8 + i % size] = sum + 32 >> 6;
                }
            }
        }

        /**
         * Sets the weights of a plane; answers how first and second are blended: 0 and 1 one of them as it is,
         * 2 the MEAN, 3 and 4 one of them by its weight, 5 both by theirs.
         */
        private int chooseWeights(Work work, int p) {
            Header h = work.head;
            int r = motion[0];
            int s = motion[3];
            boolean isBoth = r >= 0 && s >= 0;
            boolean isB = h.v[Header.SORT] == SORT_B;
            int plain = isBoth ? 2 : r >= 0 ? 0 : 1;
            if (isB && work.par[P_BOTH] == 2 && isBoth) {
                Picture a = work.lists[r];
                Picture b = work.lists[9 + s];
                int td = a == null || b == null ? 0 : Work.timeBetween(a.order, b.order);
                boolean isEven = td == 0 || a.use == Picture.LONG || b.use == Picture.LONG;
                int v = isEven ? 32 : Work.scaleBy(Work.timeBetween(a.order, work.pic.order), td) >> 2;
                otherWeight = v < -64 || v > 128 ? 32 : v;
                weight = 64 - otherWeight;
                offset = 0;
                otherOffset = 0;
                shift = 5;
                return 5;
            }
            if (isB ? work.par[P_BOTH] != 1 : work.par[P_WEIGHTED] == 0) {
                return plain;
            }
            shift = h.v[p == 0 ? Header.SHIFT : Header.COLOUR_SHIFT];
            if (r >= 0) {
                weight = h.weight[Header.weightAt(0, r, p)];
                offset = h.weight[Header.weightAt(0, r, p) + 1];
            }
            if (s >= 0) {
                otherWeight = h.weight[Header.weightAt(1, s, p)];
                otherOffset = h.weight[Header.weightAt(1, s, p) + 1];
            }
            return plain + 3;
        }

        private void blend(int way, int at, int row, int size) {
            int[] one = way == 1 || way == 4 ? second : first;
            int w = way == 4 ? otherWeight : weight;
            int o = way == 4 ? otherOffset : offset;
            for (int j = 0; j < size; j++) {
                for (int k = at + j * row; k < at + j * row + size; k++) {
                    if (way < 2) {
                        guess[k] = one[k];
                    } else if (way == 2) {
                        guess[k] = first[k] + second[k] + 1 >> 1;
                    } else if (way == 5) {
                        int sum = first[k] * weight + second[k] * otherWeight + (1 << shift);
                        guess[k] = clip((sum >> shift + 1) + (offset + otherOffset + 1 >> 1));
                    } else {
                        int v = shift > 0 ? one[k] * w + (1 << shift - 1) >> shift : one[k] * w;
                        guess[k] = clip(v + o);
                    }
                }
            }
        }

        private static int lumaAt(Picture pic, int mb, int x, int y) {
            return (16 * (mb / pic.width) + y) * 16 * pic.width + 16 * (mb % pic.width) + x;
        }

        private static int colourAt(Picture pic, int mb, int x, int y) {
            return (8 * (mb / pic.width) + y) * 8 * pic.width + 8 * (mb % pic.width) + x;
        }

        /** E of a piece; what isn't THERE is 0. */
        private void takeAround(Picture pic, int at, int sides) {
            int[] s = pic.plane[0];
            int row = 16 * pic.width;
            for (int i = 0; i < 4; i++) {
                around[3 - i] = (sides & Work.LEFT) != 0 ? s[at + i * row - 1] : 0;
                around[5 + i] = (sides & Work.ABOVE) != 0 ? s[at - row + i] : 0;
            }
            around[4] = (sides & Work.CORNER) != 0 ? s[at - row - 1] : 0;
            for (int i = 4; i < 8; i++) {
                around[5 + i] = (sides & Work.BEHIND) != 0 ? s[at - row + i] : around[8];
            }
        }

        /** A piece of FOUR by a mode that may be; sides are those of the piece. */
        void predictFour(Work work, int mb, int b, int mode, int sides) {
            int left = Work.pieceX(b);
            int top = Work.pieceY(b);
            takeAround(work.pic, lumaAt(work.pic, mb, left, top), sides);
            for (int i = 0; i < 16; i++) {
                int x = i % 4;
                int y = i / 4;
                int v;
                if (mode == 0) {
                    v = around[5 + x];
                } else if (mode == 1) {
                    v = around[3 - y];
                } else if (mode == 2) {
                    v = meanAround(sides);
                } else if (mode == 3) {
                    v = i == 15 ? three(11, 12, 12) : three(5 + x + y, 6 + x + y, 7 + x + y);
                } else if (mode == 4) {
                    v = three(3 + x - y, 4 + x - y, 5 + x - y);
                } else if (mode == 5) {
                    v = slant(x, y, 1);
                } else if (mode == 6) {
                    v = slant(y, x, -1);
                } else if (mode == 7) {
                    int k = 5 + x + (y >> 1);
                    v = y % 2 == 0 ? two(k, k + 1) : three(k, k + 1, k + 2);
                } else {
                    int k = 3 - y - (x >> 1);
                    int z = x + 2 * y;
                    v = z > 5 ? around[0] : z == 5 ? three(1, 0, 0) : z % 2 == 0 ? two(k, k - 1)
                            : three(k, k - 1, k - 2);
                }
                guess[(top + y) * 16 + left + x] = v;
            }
        }

        private int two(int i, int j) {
            return around[i] + around[j] + 1 >> 1;
        }

        private int three(int i, int j, int k) {
            return around[i] + 2 * around[j] + around[k] + 2 >> 2;
        }

        /** Modes 5 and 6: along E, or against it. */
        private int slant(int x, int y, int way) {
            int v = 2 * x - y;
            int k = x - (y >> 1);
            if (v >= 0 && v % 2 == 0) {
                return two(4 + way * k, 4 + way * (k + 1));
            }
            int centre = v > 0 ? k : v == -1 ? 0 : 1 - y;
            return three(4 + way * (centre - 1), 4 + way * centre, 4 + way * (centre + 1));
        }

        private int meanAround(int sides) {
            int left = around[0] + around[1] + around[2] + around[3];
            int above = around[5] + around[6] + around[7] + around[8];
            switch (sides & (Work.LEFT | Work.ABOVE)) {
                case 0:
                    return 128;
                case Work.LEFT:
                    return left + 2 >> 2;
                case Work.ABOVE:
                    return above + 2 >> 2;
                default:
                    return left + above + 4 >> 3;
            }
        }

        /** T from -1 on, and behind it L from -1 on, of n samples each; what isn't THERE is 0. */
        private void takeSides(int[] s, int at, int row, int n, int sides) {
            int corner = (sides & Work.CORNER) != 0 ? s[at - row - 1] : 0;
            around[0] = corner;
            around[n + 1] = corner;
            for (int i = 0; i < n; i++) {
                around[1 + i] = (sides & Work.ABOVE) != 0 ? s[at - row + i] : 0;
                around[n + 2 + i] = (sides & Work.LEFT) != 0 ? s[at + i * row - 1] : 0;
            }
        }

        void predictSixteen(Work work, int mb, int mode, int sides) {
            takeSides(work.pic.plane[0], lumaAt(work.pic, mb, 0, 0), 16 * work.pic.width, 16, sides);
            if (mode == 3) {
                fillPlane(0, 16, 5);
                return;
            }
            int mean = 128;
            boolean left = (sides & Work.LEFT) != 0;
            boolean above = (sides & Work.ABOVE) != 0;
            int sum = sumAround(1, 16) + sumAround(18, 16);
            if (left || above) {
                mean = left && above ? sum + 16 >> 5 : sum + 8 >> 4;
            }
            for (int i = 0; i < 256; i++) {
                guess[i] = mode == 0 ? around[1 + i % 16] : mode == 1 ? around[18 + i / 16] : mean;
            }
        }

        private int sumAround(int from, int n) {
            int sum = 0;
            for (int i = from; i < from + n; i++) {
                sum += around[i];
            }
            return sum;
        }

        /** The plane through the samples around, of n by n from a place of what is predicted on. */
        private void fillPlane(int to, int n, int factor) {
            int half = n / 2;
            int h = 0;
            int v = 0;
            for (int k = 1; k <= half; k++) {
                h += k * (around[half + k] - around[half - k]);
                v += k * (around[n + 1 + half + k] - around[n + 1 + half - k]);
            }
            int b = factor * h + 32 >> 6;
            int c = factor * v + 32 >> 6;
            int a = 16 * (around[n] + around[2 * n + 1]);
            for (int i = 0; i < n * n; i++) {
                int x = i % n - half + 1;
                int y = i / n - half + 1;
                int s = a + b * x + c * y + 16 >> 5;
                guess[to + i] = s < 0 ? 0 : s > 255 ? 255 : s;
            }
        }

        /** Both chroma planes of a BLOCK I. */
        void predictColours(Work work, int mb, int mode, int sides) {
            for (int p = 1; p < 3; p++) {
                int to = 192 + 64 * p;
                takeSides(work.pic.plane[p], colourAt(work.pic, mb, 0, 0), 8 * work.pic.width, 8, sides);
                if (mode == 3) {
                    fillPlane(to, 8, 34);
                    continue;
                }
                for (int i = 0; i < 64; i++) {
                    int x = i % 8;
                    int y = i / 8;
                    guess[to + i] = mode == 1 ? around[10 + y] : mode == 2 ? around[1 + x] : 0;
                }
                for (int c = 0; c < 4 && mode == 0; c++) {
                    int mean = colourMean(c, sides);
                    for (int i = 0; i < 16; i++) {
                        guess[to + (c / 2 * 4 + i / 4) * 8 + c % 2 * 4 + i % 4] = mean;
                    }
                }
            }
        }

        private int colourMean(int c, int sides) {
            boolean left = (sides & Work.LEFT) != 0;
            boolean above = (sides & Work.ABOVE) != 0;
            int top = sumAround(1 + c % 2 * 4, 4);
            int side = sumAround(10 + c / 2 * 4, 4);
            if (!left && !above) {
                return 128;
            }
            if (c == 1) {
                return (above ? top : side) + 2 >> 2;
            }
            if (c == 2) {
                return (left ? side : top) + 2 >> 2;
            }
            return left && above ? top + side + 4 >> 3 : (left ? side : top) + 2 >> 2;
        }

        /** The LEVELS of a row from number i on become what is left, by SCAN. */
        private void unfold(int[] level, int at, int i, int q) {
            Arrays.fill(rest, 0);
            for (int k = i; k < 16; k++) {
                int x = SCAN_X[k];
                int y = SCAN_Y[k];
                rest[4 * y + x] = level[at + k] * NORM[normAt(q, x, y)] << q / 6;
            }
        }

        /** Adds what is left to what is predicted, and fills a piece of a plane. */
        private void fillPiece(int[] plane, int at, int row, int from, int fromRow) {
            turnBack(1, 4);
            turnBack(4, 1);
            for (int i = 0; i < 16; i++) {
                int v = guess[from + i / 4 * fromRow + i % 4] + (rest[i] + 32 >> 6);
                plane[at + i / 4 * row + i % 4] = v < 0 ? 0 : v > 255 ? 255 : v;
            }
        }

        /** Each row of four (their members so far apart, the rows so far). */
        private void turnBack(int step, int next) {
            for (int i = 0; i < 4; i++) {
                int at = i * next;
                int e = rest[at] + rest[at + 2 * step];
                int f = rest[at] - rest[at + 2 * step];
                int g = (rest[at + step] >> 1) - rest[at + 3 * step];
                int h = rest[at + step] + (rest[at + 3 * step] >> 1);
                rest[at] = e + h;
                rest[at + step] = f + g;
                rest[at + 2 * step] = f - g;
                rest[at + 3 * step] = e - h;
            }
        }

        /** A piece of FOUR, or of a BLOCK by lists. */
        void fillLuma(Work work, int mb, int b, int q) {
            int x = Work.pieceX(b);
            int y = Work.pieceY(b);
            unfold(work.level, Work.levelAt(mb, b), 0, q);
            fillPiece(work.pic.plane[0], lumaAt(work.pic, mb, x, y), 16 * work.pic.width, 16 * y + x, 16);
        }

        void fillSixteen(Work work, int mb, int q) {
            int at = Work.levelAt(mb, 16);
            for (int k = 0; k < 16; k++) {
                even[4 * SCAN_Y[k] + SCAN_X[k]] = work.level[at + k];
            }
            turnEven();
            for (int b = 0; b < 16; b++) {
                int x = Work.pieceX(b);
                int y = Work.pieceY(b);
                unfold(work.level, Work.levelAt(mb, b), 1, q);
                rest[0] = (even[y + x / 4] * NORM[normAt(q, 0, 0)] << q / 6) + 2 >> 2;
                fillPiece(work.pic.plane[0], lumaAt(work.pic, mb, x, y), 16 * work.pic.width, 16 * y + x, 16);
            }
        }

        /** M C M. */
        private void turnEven() {
            for (int pass = 0; pass < 2; pass++) {
                for (int i = 0; i < 4; i++) {
                    int step = pass == 0 ? 1 : 4;
                    int at = pass == 0 ? 4 * i : i;
                    int a = even[at] + even[at + step];
                    int b = even[at] - even[at + step];
                    int c = even[at + 2 * step] + even[at + 3 * step];
                    int d = even[at + 2 * step] - even[at + 3 * step];
                    even[at] = a + c;
                    even[at + step] = a - c;
                    even[at + 2 * step] = b - d;
                    even[at + 3 * step] = b + d;
                }
            }
        }

        /** The four EVEN ones. */
        private void turnFour() {
            int a = even[0];
            int b = even[1];
            int c = even[2];
            int d = even[3];
            even[0] = a + b + c + d;
            even[1] = a - b + c - d;
            even[2] = a + b - c - d;
            even[3] = a - b - c + d;
        }

        void fillColours(Work work, int mb, int q) {
            for (int p = 1; p < 3; p++) {
                System.arraycopy(work.level, Work.levelAt(mb, 16 + p), even, 0, 4);
                turnFour();
                for (int c = 0; c < 4; c++) {
                    int x = c % 2 * 4;
                    int y = c / 2 * 4;
                    unfold(work.level, Work.levelAt(mb, 15 + 4 * p + c), 1, q);
                    rest[0] = (even[c] * NORM[normAt(q, 0, 0)] << q / 6) >> 1;
                    fillPiece(work.pic.plane[p], colourAt(work.pic, mb, x, y), 8 * work.pic.width,
                            192 + 64 * p + 8 * y + x, 8);
                }
            }
        }

        /** What is predicted becomes the BLOCK as it is. */
        void fillRaw(Work work, int mb) {
            for (int y = 0; y < 16; y++) {
                System.arraycopy(guess, 16 * y, work.pic.plane[0], lumaAt(work.pic, mb, 0, y), 16);
            }
            for (int p = 1; p < 3; p++) {
                for (int y = 0; y < 8; y++) {
                    System.arraycopy(guess, 192 + 64 * p + 8 * y, work.pic.plane[p], colourAt(work.pic, mb, 0, y), 8);
                }
            }
        }

        /** The INPUT's samples of a BLOCK, as RAW tells them. */
        void takeRaw(Work work, int[][] input, int mb) {
            for (int y = 0; y < 16; y++) {
                System.arraycopy(input[0], lumaAt(work.pic, mb, 0, y), guess, 16 * y, 16);
            }
            for (int p = 1; p < 3; p++) {
                for (int y = 0; y < 8; y++) {
                    System.arraycopy(input[p], colourAt(work.pic, mb, 0, y), guess, 192 + 64 * p + 8 * y, 8);
                }
            }
        }

        /** The sum of differences of luma to the INPUT, of a square of a BLOCK from piece b on. */
        int differences(Work work, int[] input, int mb, int b, int size) {
            int left = Work.pieceX(b);
            int top = Work.pieceY(b);
            int sum = 0;
            for (int y = 0; y < size; y++) {
                int at = lumaAt(work.pic, mb, left, top + y);
                for (int x = 0; x < size; x++) {
                    int d = input[at + x] - guess[16 * (top + y) + left + x];
                    sum += d < 0 ? -d : d;
                }
            }
            return sum;
        }

        int colourDifferences(Work work, int[][] input, int mb) {
            int sum = 0;
            for (int i = 0; i < 128; i++) {
                int p = 1 + i / 64;
                int d = input[p][colourAt(work.pic, mb, i % 8, i / 8 % 8)] - guess[256 + i];
                sum += d < 0 ? -d : d;
            }
            return sum;
        }

        /** W of a piece: INPUT less what is predicted, turned. */
        private void turn(int[] input, int at, int row, int from, int fromRow) {
            for (int i = 0; i < 16; i++) {
                rest[i] = input[at + i / 4 * row + i % 4] - guess[from + i / 4 * fromRow + i % 4];
            }
            for (int pass = 0; pass < 2; pass++) {
                int step = pass == 0 ? 1 : 4;
                for (int i = 0; i < 4; i++) {
                    int k = pass == 0 ? 4 * i : i;
                    int a = rest[k] + rest[k + 3 * step];
                    int b = rest[k + step] + rest[k + 2 * step];
                    int c = rest[k + step] - rest[k + 2 * step];
                    int d = rest[k] - rest[k + 3 * step];
                    rest[k] = a + b;
                    rest[k + step] = 2 * d + c;
                    rest[k + 2 * step] = a - b;
                    rest[k + 3 * step] = d - 2 * c;
                }
            }
        }

        private static int measured(int w, int factor, int add, int shift) {
            int size = (w < 0 ? -w : w) * factor + add >> shift;
            size = size > MOST_LEVEL ? MOST_LEVEL : size;
            return w < 0 ? -size : size;
        }

        private static int roundingOf(int q, boolean isI) {
            return (1 << 15 + q / 6) / (isI ? 3 : 6);
        }

        /** The LEVELS of what is left, from number i on; answers TOTAL. */
        private int measure(int[] level, int at, int i, int q, boolean isI) {
            int total = 0;
            for (int k = i; k < 16; k++) {
                int x = SCAN_X[k];
                int y = SCAN_Y[k];
                int v = measured(rest[4 * y + x], MEASURE[normAt(q, x, y)], roundingOf(q, isI), 15 + q / 6);
                level[at + k] = v;
                total += v != 0 ? 1 : 0;
            }
            return total;
        }

        /** The LEVELS of a luma piece; answers TOTAL. */
        int measureLuma(Work work, int[] input, int mb, int b, int q, boolean isI) {
            int x = Work.pieceX(b);
            int y = Work.pieceY(b);
            turn(input, lumaAt(work.pic, mb, x, y), 16 * work.pic.width, 16 * y + x, 16);
            int total = measure(work.level, Work.levelAt(mb, b), 0, q, isI);
            work.total[24 * mb + b] = total;
            return total;
        }

        /** The LEVELS of SIXTEEN; answers whether one not EVEN isn't 0. */
        boolean measureSixteen(Work work, int[] input, int mb, int q) {
            int all = 0;
            for (int b = 0; b < 16; b++) {
                int x = Work.pieceX(b);
                int y = Work.pieceY(b);
                turn(input, lumaAt(work.pic, mb, x, y), 16 * work.pic.width, 16 * y + x, 16);
                even[y + x / 4] = rest[0];
                int total = measure(work.level, Work.levelAt(mb, b), 1, q, true);
                work.total[24 * mb + b] = total;
                all += total;
            }
            turnEven();
            int at = Work.levelAt(mb, 16);
            for (int k = 0; k < 16; k++) {
                int w = even[4 * SCAN_Y[k] + SCAN_X[k]] / 2;
                work.level[at + k] = measured(w, MEASURE[normAt(q, 0, 0)], 2 * roundingOf(q, true), 16 + q / 6);
            }
            return all > 0;
        }

        /** The LEVELS of chroma; answers the chroma pattern. */
        int measureColours(Work work, int[][] input, int mb, int q, boolean isI) {
            int pattern = 0;
            for (int p = 1; p < 3; p++) {
                for (int c = 0; c < 4; c++) {
                    int x = c % 2 * 4;
                    int y = c / 2 * 4;
                    turn(input[p], colourAt(work.pic, mb, x, y), 8 * work.pic.width, 192 + 64 * p + 8 * y + x, 8);
                    even[c] = rest[0];
                    int total = measure(work.level, Work.levelAt(mb, 15 + 4 * p + c), 1, q, isI);
                    work.total[24 * mb + 12 + 4 * p + c] = total;
                    pattern = total > 0 ? 2 : pattern;
                }
                turnFour();
                int at = Work.levelAt(mb, 16 + p);
                for (int c = 0; c < 4; c++) {
                    int v = measured(even[c], MEASURE[normAt(q, 0, 0)], 2 * roundingOf(q, isI), 16 + q / 6);
                    work.level[at + c] = v;
                    pattern = v != 0 && pattern == 0 ? 1 : pattern;
                }
            }
            return pattern;
        }
    }

    /** The end of a PICTURE's samples: missing BLOCKS are REPAIRED, edges filtered. */
    private static final class Edges {
        /** From 16 on. */
        static final int[] ALPHA = {
            4, 4, 5, 6, 7, 8, 9, 10, 12, 13, 15, 17, 20, 22, 25, 28, 32, 36, 40, 45, 50, 56, 63, 71, 80, 90, 101,
            113, 127, 144, 162, 182, 203, 226, 255, 255
        };
        /** From 16 on. */
        static final int[] BETA = {
            2, 2, 2, 3, 3, 3, 3, 4, 4, 4, 6, 6, 7, 7, 8, 8, 9, 9, 10, 10, 11, 11, 12, 12, 13, 13, 14, 14, 15, 15,
            16, 16, 17, 17, 18, 18
        };
        /** C0 from 17 on, of strengths 1, 2 and 3. */
        static final int[] SOFT = {
            0, 0, 1, 0, 0, 1, 0, 0, 1, 0, 0, 1, 0, 1, 1, 0, 1, 1, 1, 1, 1, 1, 1, 1, 1, 1, 1, 1, 1, 1, 1, 1, 2, 1,
            1, 2, 1, 1, 2, 1, 1, 2, 1, 2, 3, 1, 2, 3, 2, 2, 3, 2, 2, 4, 2, 3, 4, 2, 3, 4, 3, 3, 5, 3, 4, 6, 3, 4,
            6, 4, 5, 7, 4, 5, 8, 4, 6, 9, 5, 7, 10, 6, 8, 11, 6, 8, 13, 7, 10, 14, 8, 11, 16, 9, 12, 18, 10, 13,
            20, 11, 15, 23, 13, 17, 25
        };

        /** STRENGTHS of the PICTURE that ended last, by piece and way, and how many BLOCKS it has. */
        final int[] strength = new int[2 * 16 * MOST_BLOCKS];
        int blocks;
        private int alpha;
        private int beta;
        private int indexA;
        private int mendX;
        private int mendY;

        /** REPAIR by a way from the PICTURE that ended before; answers how many BLOCKS were missing. */
        int mend(Work work, Picture before, int way) {
            int n = 0;
            for (int mb = 0; mb < work.pic.blocks(); mb++) {
                if (work.info[8 * mb + Work.KIND] != MISSING) {
                    continue;
                }
                work.info[8 * mb + Work.KIND] = MENDED;
                n++;
                mendX = 0;
                mendY = 0;
                if (way == 3) {
                    takeMotion(work, mb);
                }
                for (int p = 0; p < 3; p++) {
                    if (way == 2) {
                        mendFromSides(work.pic, mb, p);
                    } else {
                        mendFromBefore(work.pic, mb, p, way == 0 ? null : before);
                    }
                }
            }
            return n;
        }

        /** The VECTOR of the BLOCK above, else at the left. */
        private void takeMotion(Work work, int mb) {
            int wide = work.pic.width;
            int near = mb >= wide ? mb - wide : mb % wide > 0 ? mb - 1 : -1;
            int piece = 16 * near + 15;
            if (near >= 0 && work.pic.reference[piece] >= 0) {
                mendX = work.pic.move[2 * piece];
                mendY = work.pic.move[2 * piece + 1];
            }
        }

        private void mendFromBefore(Picture pic, int mb, int p, Picture before) {
            int n = p == 0 ? 16 : 8;
            int left = n * (mb % pic.width);
            int top = n * (mb / pic.width);
            int x = p == 0 ? mendX + 2 >> 2 : mendX + 4 >> 3;
            int y = p == 0 ? mendY + 2 >> 2 : mendY + 4 >> 3;
            for (int i = 0; i < n * n; i++) {
                int to = (top + i / n) * n * pic.width + left + i % n;
                pic.plane[p][to] = before == null ? 128 : before.nearest(p, left + i % n + x, top + i / n + y);
            }
        }

        private static void mendFromSides(Picture pic, int mb, int p) {
            int n = p == 0 ? 16 : 8;
            int row = n * pic.width;
            int left = n * (mb % pic.width);
            int top = n * (mb / pic.width);
            int[] s = pic.plane[p];
            for (int i = 0; i < n * n; i++) {
                int x = i % n;
                int y = i / n;
                int a = top > 0 ? s[(top - 1) * row + left + x] : 0;
                int b = left > 0 ? s[(top + y) * row + left - 1] : 0;
                int u = top > 0 ? n - y : 0;
                int v = left > 0 ? n - x : 0;
                s[(top + y) * row + left + x] = u + v == 0 ? 128 : (a * u + b * v + (u + v) / 2) / (u + v);
            }
        }

        /** Filters a PICTURE, and notes its STRENGTHS. */
        void filter(Work work) {
            blocks = work.pic.blocks();
            for (int mb = 0; mb < blocks; mb++) {
                measure(work, mb);
                for (int p = 0; p < 3; p++) {
                    for (int way = 0; way < 2; way++) {
                        for (int e = 0; e < (p == 0 ? 4 : 2); e++) {
                            filterEdge(work, mb, p, way, e);
                        }
                    }
                }
            }
        }

        private void measure(Work work, int mb) {
            int wide = work.pic.width;
            int off = work.rule[3 * mb];
            for (int way = 0; way < 2; way++) {
                int other = way == 0 ? (mb % wide > 0 ? mb - 1 : -1) : mb - wide;
                boolean isOpen = other >= 0
                        && (off != 2 || work.info[8 * mb + Work.SLICE] == work.info[8 * other + Work.SLICE]);
                for (int b = 0; b < 16; b++) {
                    int x = Work.pieceX(b) - (way == 0 ? 4 : 0);
                    int y = Work.pieceY(b) - (way == 1 ? 4 : 0);
                    boolean isInside = x >= 0 && y >= 0;
                    int s = 0;
                    if (off != 1 && (isInside || isOpen)) {
                        int near = (y >> 3 & 1) * 8 + (x >> 3 & 1) * 4 + (y >> 2 & 1) * 2 + (x >> 2 & 1);
                        s = strengthOf(work, 16 * (isInside ? mb : other) + near, 16 * mb + b);
                    }
                    strength[2 * (16 * mb + b) + way] = s;
                }
            }
        }

        private static int strengthOf(Work work, int p, int q) {
            int before = p >> 4;
            int mb = q >> 4;
            if (work.info[8 * before + Work.KIND] != BY_LISTS || work.info[8 * mb + Work.KIND] != BY_LISTS) {
                return before == mb ? 3 : 4;
            }
            if (work.total[24 * before + (p & 15)] > 0 || work.total[24 * mb + (q & 15)] > 0) {
                return 2;
            }
            return work.pic.movesApart(p, q) ? 1 : 0;
        }

        /** Edge e of a plane of a BLOCK; way 0 upright, 1 level. */
        private void filterEdge(Work work, int mb, int p, int way, int e) {
            Picture pic = work.pic;
            int n = p == 0 ? 16 : 8;
            int other = e > 0 ? mb : way == 0 ? mb - 1 : mb - pic.width;
            if (e == 0 && (way == 0 ? mb % pic.width == 0 : other < 0)) {
                return;
            }
            setThresholds(work, other, mb, p);
            int row = n * pic.width;
            int at = n * (mb / pic.width) * row + n * (mb % pic.width) + 4 * e * (way == 0 ? 1 : row);
            int across = way == 0 ? 1 : row;
            int along = way == 0 ? row : 1;
            for (int i = 0; i < n; i++) {
                int line = p == 0 ? i : 2 * i;
                int edge = p == 0 ? 4 * e : 8 * e;
                int x = way == 0 ? edge : line;
                int y = way == 0 ? line : edge;
                int b = (y >> 3) * 8 + (x >> 3) * 4 + (y >> 2 & 1) * 2 + (x >> 2 & 1);
                int s = strength[2 * (16 * mb + b) + way];
                if (s > 0) {
                    filterLine(pic.plane[p], at + i * along, across, s, p == 0);
                }
            }
        }

        private void setThresholds(Work work, int before, int mb, int p) {
            int a = work.info[8 * before + Work.STEP];
            int b = work.info[8 * mb + Work.STEP];
            if (p > 0) {
                a = Samples.colourStep(a, work.par[P_APART]);
                b = Samples.colourStep(b, work.par[P_APART]);
            }
            int m = a + b + 1 >> 1;
            indexA = clamp(0, 51, m + 2 * work.rule[3 * mb + 1]);
            int indexB = clamp(0, 51, m + 2 * work.rule[3 * mb + 2]);
            alpha = indexA < 16 ? 0 : ALPHA[indexA - 16];
            beta = indexB < 16 ? 0 : BETA[indexB - 16];
        }

        private void filterLine(int[] s, int at, int step, int strong, boolean isLuma) {
            int p0 = s[at - step];
            int p1 = s[at - 2 * step];
            int q0 = s[at];
            int q1 = s[at + step];
            if (Math.abs(p0 - q0) >= alpha || Math.abs(p1 - p0) >= beta || Math.abs(q1 - q0) >= beta) {
                return;
            }
            boolean isFlatP = isLuma && Math.abs(s[at - 3 * step] - p0) < beta;
            boolean isFlatQ = isLuma && Math.abs(s[at + 2 * step] - q0) < beta;
            if (strong == 4) {
                boolean isNear = Math.abs(p0 - q0) < (alpha >> 2) + 2;
                smooth(s, at - step, -step, isFlatP && isNear, q0, q1);
                smooth(s, at, step, isFlatQ && isNear, p0, p1);
                return;
            }
            int t = indexA < 17 ? 0 : SOFT[3 * (indexA - 17) + strong - 1];
            int c = isLuma ? t + (isFlatP ? 1 : 0) + (isFlatQ ? 1 : 0) : t + 1;
            int d = (q0 - p0) * 4 + (p1 - q1) + 4 >> 3;
            d = d < -c ? -c : d > c ? c : d;
            int mean = p0 + q0 + 1 >> 1;
            if (isFlatP) {
                int v = s[at - 3 * step] + mean - 2 * p1 >> 1;
                s[at - 2 * step] = p1 + (v < -t ? -t : v > t ? t : v);
            }
            if (isFlatQ) {
                int v = s[at + 2 * step] + mean - 2 * q1 >> 1;
                s[at + step] = q1 + (v < -t ? -t : v > t ? t : v);
            }
            s[at - step] = clip(p0 + d);
            s[at] = clip(q0 - d);
        }

        /** One side of an edge of strength 4; o0, o1 are the other side's samples. */
        private static void smooth(int[] s, int at, int step, boolean isWide, int o0, int o1) {
            int p0 = s[at];
            int p1 = s[at + step];
            if (!isWide) {
                s[at] = 2 * p1 + p0 + o1 + 2 >> 2;
                return;
            }
            int p2 = s[at + 2 * step];
            int p3 = s[at + 3 * step];
            s[at] = p2 + 2 * p1 + 2 * p0 + 2 * o0 + o1 + 4 >> 3;
            s[at + step] = p2 + p1 + p0 + o0 + 2 >> 2;
            s[at + 2 * step] = 2 * p3 + 3 * p2 + p1 + p0 + o0 + 4 >> 3;
        }
    }

    /** Decodes UNITS. */
    private static final class Decoder {
        final Reader reader = new Reader();
        final Store store = new Store();
        final Work work = new Work();
        final Samples samples = new Samples();
        final Edges edges = new Edges();
        final int[][] sequences = new int[4][S_ROW];
        final int[][] parameters = new int[4][P_ROW];
        /** A copy of a SEQUENCE, and its id (-1 without). */
        private final int[] active = new int[S_ROW];
        private int activeId = -1;
        private final int[] draft = new int[S_ROW];
        /** The HEADER that is read; of the latest SLICE that was begun; of the first one of its PICTURE. */
        private Header head = new Header();
        Header latest = new Header();
        private final Header first = new Header();
        final int[] faults = new int[3 * MOST_FAULTS];
        int faultCount;
        int slices;
        boolean underWay;
        int mendWay;
        int mended;
        int effort;
        private int step;
        /** The BLOCK that is read; -1 without. */
        private int current;

        /** As at first; the way of REPAIR and EFFORT stay. */
        void restart() {
            for (int i = 0; i < 4; i++) {
                sequences[i][S_THERE] = 0;
                parameters[i][P_THERE] = 0;
            }
            activeId = -1;
            store.clear();
            work.pic = null;
            Arrays.fill(work.entryThere, 0);
            edges.blocks = 0;
            reader.elementCount = 0;
            faultCount = 0;
            slices = 0;
            underWay = false;
            mended = 0;
        }

        void takeUnit(Units units, int k) {
            units.loadPayload(k);
            reader.load(units);
            int lead = units.byteAt(k, 0);
            int type = lead > 127 ? 0 : lead & 31;
            current = -1;
            try {
                if (type == 1 || type == 5) {
                    readHeader(type, lead >> 5 & 3);
                    if (!underWay || head.beginsBehind(latest)) {
                        endPicture();
                        bridge();
                        beginPicture();
                    }
                    beginSlice();
                    readData();
                } else if (type == 7) {
                    endPicture();
                    readSequence();
                } else if (type == 8) {
                    endPicture();
                    readParameters();
                }
            } catch (IllegalStateException e) {
                noteFault(k);
            }
            units.decoded = k + 1;
        }

        private void noteFault(int k) {
            if (faultCount < MOST_FAULTS) {
                faults[3 * faultCount] = k;
                faults[3 * faultCount + 1] = reader.faultPlace;
                faults[3 * faultCount + 2] = reader.faultKind;
            }
            faultCount++;
            if (current >= 0) {
                work.clearBlock(current);
            }
        }

        private int unsigned(int high) {
            return reader.number(0, UE, 0, high);
        }

        private int signed(int low, int high) {
            return reader.number(0, SE, low, high);
        }

        private void readSequence() {
            int[] s = draft;
            Arrays.fill(s, 0);
            reader.fixed(0, 8);
            reader.fixed(0, 8);
            reader.fixed(0, 8);
            int id = unsigned(3);
            s[S_FRAME] = unsigned(12) + 4;
            s[S_KIND] = unsigned(2);
            if (s[S_KIND] == 0) {
                s[S_LOW] = unsigned(12) + 4;
            } else if (s[S_KIND] == 1) {
                readTurns(s);
            }
            s[S_REFS] = unsigned(4);
            s[S_GAPS] = reader.fixed(0, 1);
            s[S_WIDTH] = unsigned(7) + 1;
            s[S_HEIGHT] = unsigned(7) + 1;
            if (s[S_WIDTH] * s[S_HEIGHT] > MOST_BLOCKS) {
                reader.fail(OUT, reader.begin);
            }
            reader.expect(1);
            reader.expect(1);
            int crop = reader.fixed(0, 1);
            for (int i = 0; i < 4 && crop == 1; i++) {
                s[S_CROP + i] = unsigned(3);
            }
            reader.expect(0);
            s[S_THERE] = 1;
            System.arraycopy(s, 0, sequences[id], 0, S_ROW);
        }

        private void readTurns(int[] s) {
            s[S_SAME] = reader.fixed(0, 1);
            s[S_APART] = signed(-32768, 32767);
            s[S_BELOW] = signed(-32768, 32767);
            s[S_TURNS] = unsigned(8);
            for (int i = 0; i < s[S_TURNS] && S_TURN + i < S_THERE; i++) {
                s[S_TURN + i] = signed(-32768, 32767);
            }
        }

        private void readParameters() {
            int[] p = draft;
            Arrays.fill(p, 0);
            int id = unsigned(3);
            p[P_SEQUENCE] = unsigned(3);
            p[P_CODING] = reader.fixed(0, 1);
            p[P_PAIR] = reader.fixed(0, 1);
            unsigned(0);
            p[P_N0] = unsigned(7) + 1;
            p[P_N1] = unsigned(7) + 1;
            p[P_WEIGHTED] = reader.fixed(0, 1);
            p[P_BOTH] = reader.fixed(0, 2);
            if (p[P_BOTH] > 2) {
                reader.fail(OUT, reader.begin);
            }
            p[P_STEP] = signed(-26, 25);
            signed(-26, 25);
            p[P_APART] = signed(-12, 12);
            p[P_EDGES] = reader.fixed(0, 1);
            p[P_OWN] = reader.fixed(0, 1);
            reader.expect(0);
            p[P_THERE] = 1;
            System.arraycopy(p, 0, parameters[id], 0, P_ROW);
        }

        private void readHeader(int type, int ref) {
            int[] v = head.v;
            Arrays.fill(v, 0);
            v[Header.TYPE] = type;
            v[Header.REF] = ref;
            v[Header.FIRST] = reader.number(0, UE, 0, 0xffffffffL);
            int firstPlace = reader.begin;
            v[Header.SORT] = unsigned(9) % 5;
            if (v[Header.SORT] > SORT_I || type == 5 && v[Header.SORT] != SORT_I) {
                reader.fail(OUT, reader.begin);
            }
            v[Header.PARAMETERS] = unsigned(3);
            int[] p = parameters[v[Header.PARAMETERS]];
            int id = p[P_SEQUENCE];
            if (p[P_THERE] == 0 || sequences[id][S_THERE] == 0 || type == 1 && activeId != id) {
                reader.fail(NO_SET, reader.begin);
            }
            int[] s = type == 1 ? active : sequences[id];
            if (v[Header.FIRST] < 0 || v[Header.FIRST] >= s[S_WIDTH] * s[S_HEIGHT]) {
                reader.fail(OUT, firstPlace);
            }
            v[Header.FRAME_PLACE] = reader.place;
            v[Header.FRAME] = reader.fixed(0, s[S_FRAME]);
            if (type == 5) {
                if (v[Header.FRAME] != 0) {
                    reader.fail(OUT, reader.begin);
                }
                v[Header.OWN_ID] = unsigned(65535);
            }
            readOrder(s, p);
            if (v[Header.SORT] != SORT_I) {
                readLists(s, p);
            }
            if (ref != 0) {
                readMarks(type);
            }
            readRules(p);
        }

        private void readOrder(int[] s, int[] p) {
            int[] v = head.v;
            if (s[S_KIND] == 0) {
                v[Header.LOW] = reader.fixed(0, s[S_LOW]);
                if (p[P_PAIR] == 1) {
                    v[Header.D0] = signed(-32768, 32767);
                }
            } else if (s[S_KIND] == 1 && s[S_SAME] == 0) {
                v[Header.D0] = signed(-32768, 32767);
                if (p[P_PAIR] == 1) {
                    v[Header.D1] = signed(-32768, 32767);
                }
            }
        }

        private void readLists(int[] s, int[] p) {
            int[] v = head.v;
            boolean isB = v[Header.SORT] == SORT_B;
            v[Header.SPACE] = isB ? reader.fixed(0, 1) : 0;
            v[Header.N0] = p[P_N0];
            v[Header.N1] = isB ? p[P_N1] : 0;
            if (reader.fixed(0, 1) == 1) {
                v[Header.N0] = unsigned(7) + 1;
                v[Header.N1] = isB ? unsigned(7) + 1 : 0;
            }
            readMoves(0, 1 << s[S_FRAME]);
            if (isB) {
                readMoves(1, 1 << s[S_FRAME]);
            }
            if (isB ? p[P_BOTH] == 1 : p[P_WEIGHTED] == 1) {
                v[Header.SHIFT] = unsigned(7);
                v[Header.COLOUR_SHIFT] = unsigned(7);
                head.clearWeights();
                readWeights(0);
                if (isB) {
                    readWeights(1);
                }
            }
        }

        private void readMoves(int list, int m) {
            if (reader.fixed(0, 1) == 0) {
                return;
            }
            for (int i = 0; i <= Header.MOST_MOVES; i++) {
                int op = unsigned(3);
                if (op == 3) {
                    return;
                }
                if (i == Header.MOST_MOVES) {
                    reader.fail(OUT, reader.begin);
                }
                int at = 2 * (Header.MOST_MOVES * list + i);
                head.move[at] = op;
                head.move[at + 1] = unsigned(op == 2 ? 3 : m - 1);
                head.v[Header.MOVES0 + list] = i + 1;
            }
        }

        private void readWeights(int list) {
            int n = head.v[Header.N0 + list];
            for (int i = 0; i < n && i < 8; i++) {
                boolean isTold = false;
                for (int p = 0; p < 3; p++) {
                    // one flag tells of both chroma planes
                    isTold = p < 2 ? reader.fixed(0, 1) == 1 : isTold;
                    if (isTold) {
                        int at = Header.weightAt(list, i, p);
                        head.weight[at] = signed(-128, 127);
                        head.weight[at + 1] = signed(-128, 127);
                    }
                }
            }
        }

        private void readMarks(int type) {
            int[] v = head.v;
            if (type == 5) {
                v[Header.DROP] = reader.fixed(0, 1);
                v[Header.LONG] = reader.fixed(0, 1);
                return;
            }
            if (reader.fixed(0, 1) == 0) {
                return;
            }
            for (int i = 0; i <= Header.MOST_OPS; i++) {
                int op = unsigned(6);
                if (op == 0) {
                    return;
                }
                if (i == Header.MOST_OPS) {
                    reader.fail(OUT, reader.begin);
                }
                head.op[3 * i] = op;
                head.op[3 * i + 1] = 0;
                head.op[3 * i + 2] = 0;
                if (op != 5) {
                    head.op[3 * i + 1] = unsigned(op % 2 == 1 ? 65535 : op == 4 ? 4 : 3);
                }
                if (op == 3) {
                    head.op[3 * i + 2] = unsigned(3);
                }
                v[Header.OPS] = i + 1;
            }
        }

        private void readRules(int[] p) {
            int[] v = head.v;
            if (p[P_CODING] == 1 && v[Header.SORT] != SORT_I) {
                unsigned(2);
            }
            long least = -0xffffffffL;
            v[Header.STEP] = p[P_STEP] + 26 + reader.number(0, SE, least, -least);
            if (v[Header.STEP] < 0 || v[Header.STEP] > 51) {
                reader.fail(OUT, reader.begin);
            }
            if (p[P_EDGES] == 1) {
                v[Header.OFF] = unsigned(2);
                if (v[Header.OFF] != 1) {
                    v[Header.A] = signed(-6, 6);
                    v[Header.B] = signed(-6, 6);
                }
            }
        }

        /** Makes up what GAPS leave before this SLICE's PICTURE. */
        private void bridge() {
            int m = 1 << active[S_FRAME];
            int last = store.last;
            int ahead = head.v[Header.FRAME] - last & m - 1;
            if (head.isOwn() || ahead < 2) {
                return;
            }
            if (active[S_GAPS] == 0) {
                reader.fail(WRONG, head.v[Header.FRAME_PLACE]);
            }
            for (int i = ahead > 7 ? ahead - 6 : 1; i < ahead; i++) {
                store.makeUp(last + i & m - 1, active);
            }
        }

        private void beginPicture() {
            int[] v = head.v;
            if (head.isOwn()) {
                activeId = parameters[v[Header.PARAMETERS]][P_SEQUENCE];
                System.arraycopy(sequences[activeId], 0, active, 0, S_ROW);
            }
            Picture pic = store.fresh(active[S_WIDTH], active[S_HEIGHT]);
            for (int i = 0; i < 4; i++) {
                pic.crop[i] = active[S_CROP + i];
            }
            pic.frame = v[Header.FRAME];
            pic.order = store.orderOf(head, active);
            pic.sort = v[Header.SORT];
            pic.ref = v[Header.REF];
            work.begin(pic);
            first.copyFrom(head);
            effort += pic.blocks();
            underWay = true;
        }

        private void beginSlice() {
            Header next = head;
            head = latest;
            latest = next;
            slices++;
            int[] v = latest.v;
            v[Header.DONE] = 0;
            v[Header.ORDER] = work.pic.order;
            work.head = latest;
            work.par = parameters[v[Header.PARAMETERS]];
            work.sliceNumber++;
            int m = 1 << active[S_FRAME];
            store.makeLists(work, m);
            boolean isRight = store.moveList(work, 0, m) && store.moveList(work, 1, m);
            work.noteEntries();
            if (!isRight) {
                reader.failHere(WRONG);
            }
        }

        private void readData() {
            int[] v = latest.v;
            boolean isI = v[Header.SORT] == SORT_I;
            boolean arith = work.par[P_CODING] == 1;
            int blocks = work.pic.blocks();
            int mb = v[Header.FIRST];
            step = v[Header.STEP];
            if (arith) {
                reader.beginData();
            }
            for (int i = 0; i <= MOST_BLOCKS; i++) {
                if (!arith && !isI) {
                    int run = reader.number(E_SKIP, UE, 0, mb < blocks ? blocks - mb : 0);
                    for (int k = 0; k < run; k++) {
                        claim(mb);
                        readSkipped(mb);
                        rebuild(mb);
                        endBlock(mb);
                        mb++;
                    }
                    if (run > 0 && !reader.more()) {
                        return;
                    }
                }
                claim(mb);
                if (arith && !isI && reader.bit(E_SKIP, 0) == 1) {
                    readSkipped(mb);
                } else {
                    readBlock(mb);
                    if (work.info[8 * mb + Work.KIND] == RAW) {
                        reader.rawSamples(samples.guess);
                    }
                    readReferences(mb, 0);
                    readReferences(mb, 1);
                    readVectors(mb, 0);
                    readVectors(mb, 1);
                    readPattern(mb);
                    readLevels(mb);
                }
                rebuild(mb);
                endBlock(mb);
                mb++;
                if (arith ? reader.isLast() : !reader.more()) {
                    return;
                }
            }
        }

        /** A BLOCK may come now; before it is read there is nothing to clear. */
        private void claim(int mb) {
            current = -1;
            if (mb >= work.pic.blocks() || work.info[8 * mb + Work.KIND] != MISSING) {
                reader.failHere(WRONG);
            }
        }

        private void endBlock(int mb) {
            work.endBlock(mb);
            latest.v[Header.DONE]++;
            current = -1;
        }

        private void readSkipped(int mb) {
            current = mb;
            work.info[8 * mb + Work.KIND] = BY_LISTS;
            work.info[8 * mb + Work.STEP] = step;
            if (latest.v[Header.SORT] == SORT_B) {
                if (!work.direct(mb, 15)) {
                    reader.failHere(WRONG);
                }
                return;
            }
            if (work.lists[0] == null) {
                reader.failHere(WRONG);
            }
            work.skip(mb);
        }

        /** A BLOCK up to its references. */
        private void readBlock(int mb) {
            current = mb;
            work.parts = 0;
            work.groups = 0;
            int sort = latest.v[Header.SORT];
            int bias = sort == SORT_I ? 0 : sort == SORT_P ? 5 : 23;
            int type = reader.number(E_TYPE, UE, 0, 25 + bias);
            work.info[8 * mb + Work.TYPE] = type;
            if (type == bias + 25) {
                work.info[8 * mb + Work.KIND] = RAW;
            } else if (type > bias) {
                readSixteen(mb, type - bias - 1);
            } else if (type == bias) {
                readFour(mb);
            } else {
                work.info[8 * mb + Work.KIND] = BY_LISTS;
                int direct = sort == SORT_B && type == 0 ? 15 : 0;
                if (sort == SORT_B ? type == 22 : type > 2) {
                    direct = readSubs(sort, type);
                }
                if (direct != 0 && !work.direct(mb, direct)) {
                    reader.failHere(WRONG);
                }
                if (direct != 15) {
                    work.plan(sort, type);
                }
            }
        }

        /** Answers which quarters are DIRECT. */
        private int readSubs(int sort, int type) {
            if (sort == SORT_P && type == 4 && work.par[P_CODING] == 1) {
                reader.fail(OUT, reader.begin);
            }
            int direct = 0;
            for (int q = 0; q < 4; q++) {
                work.sub[q] = reader.number(E_SUB, UE, 0, sort == SORT_B ? 12 : 3);
                direct |= sort == SORT_B && work.sub[q] == 0 ? 1 << q : 0;
            }
            return direct;
        }

        private void readSixteen(int mb, int t) {
            int sides = work.sides(mb);
            work.info[8 * mb + Work.KIND] = SIXTEEN;
            work.info[8 * mb + Work.LUMA] = t > 11 ? 15 : 0;
            work.info[8 * mb + Work.CHROMA] = t / 4 % 3;
            if (!Work.mayBeSixteen(t % 4, sides)) {
                reader.failHere(WRONG);
            }
            Arrays.fill(work.mode, 16 * mb, 16 * mb + 16, t % 4);
            readColours(mb, sides);
        }

        private void readFour(int mb) {
            int sides = work.sides(mb);
            work.info[8 * mb + Work.KIND] = FOUR;
            for (int b = 0; b < 16; b++) {
                int guess = work.guessMode(mb, b);
                int mode = guess;
                if (reader.fixed(E_GIVEN, 1) == 0) {
                    int rest = reader.fixed(E_REST, 3);
                    mode = rest < guess ? rest : rest + 1;
                }
                if (!Work.mayBeFour(mode, Work.sidesOf(b, sides))) {
                    reader.failHere(WRONG);
                }
                work.mode[16 * mb + b] = mode;
            }
            readColours(mb, sides);
        }

        private void readColours(int mb, int sides) {
            int mode = reader.number(E_COLOURS, UE, 0, 3);
            if (!Work.mayBeColours(mode, sides)) {
                reader.failHere(WRONG);
            }
            work.info[8 * mb + Work.COLOURS] = mode;
        }

        private void readReferences(int mb, int list) {
            int most = latest.v[Header.N0 + list] - 1;
            boolean isNone = latest.v[Header.SORT] == SORT_P && work.info[8 * mb + Work.TYPE] == 4;
            for (int g = 0; g < work.groups; g++) {
                if ((work.group[4 * g + 3] >> list & 1) == 0) {
                    continue;
                }
                int r = isNone || most < 1 ? 0 : reader.number(E_REFERENCE, TE, 0, most);
                if (r > 7 || work.lists[9 * list + r] == null) {
                    reader.failHere(WRONG);
                }
                work.setReference(mb, list, g, r);
            }
        }

        private void readVectors(int mb, int list) {
            for (int p = 0; p < work.parts; p++) {
                int[] part = work.part;
                int at = 5 * p;
                if ((part[at + 3] >> list & 1) == 0) {
                    continue;
                }
                int r = work.pic.reference[Picture.at(list, 16 * mb + part[at])];
                work.guess(mb, list, r, part[at], part[at + 1], part[at + 4]);
                int x = work.guessX + reader.number(E_X, SE, -8192, 8191);
                if (x < -2048 || x > 2047) {
                    reader.fail(OUT, reader.begin);
                }
                int y = work.guessY + reader.number(E_Y, SE, -8192, 8191);
                if (y < -2048 || y > 2047) {
                    reader.fail(OUT, reader.begin);
                }
                work.setMove(mb, list, p, x, y);
            }
        }

        /** The pattern and STEP of a BLOCK. */
        private void readPattern(int mb) {
            int at = 8 * mb;
            int kind = work.info[at + Work.KIND];
            if (kind == RAW) {
                Arrays.fill(work.total, 24 * mb, 24 * mb + 24, 16);
                return;
            }
            if (kind != SIXTEEN) {
                int k = reader.number(E_PATTERN, UE, 0, 47);
                int pattern = Reader.PATTERN[kind == FOUR ? k : 48 + k];
                work.info[at + Work.LUMA] = pattern & 15;
                work.info[at + Work.CHROMA] = pattern / 16;
            }
            if (kind == SIXTEEN || work.info[at + Work.LUMA] + work.info[at + Work.CHROMA] > 0) {
                step = (step + reader.number(E_MORE, SE, -26, 25) + 52) % 52;
            }
            work.info[at + Work.STEP] = step;
        }

        private void readLevels(int mb) {
            int at = 8 * mb;
            int[] level = work.level;
            boolean isSixteen = work.info[at + Work.KIND] == SIXTEEN;
            if (isSixteen) {
                reader.levels(work.tokenTable(mb, 0), 16, level, Work.levelAt(mb, 16));
            }
            for (int b = 0; b < 16; b++) {
                if ((work.info[at + Work.LUMA] >> b / 4 & 1) == 1) {
                    work.total[24 * mb + b] = reader.levels(work.tokenTable(mb, b), isSixteen ? 15 : 16, level,
                            Work.levelAt(mb, b));
                }
            }
            for (int p = 1; p < 3 && work.info[at + Work.CHROMA] > 0; p++) {
                reader.levels(4, 4, level, Work.levelAt(mb, 16 + p));
            }
            for (int c = 16; c < 24 && work.info[at + Work.CHROMA] == 2; c++) {
                work.total[24 * mb + c] = reader.levels(work.tokenTable(mb, c), 15, level, Work.levelAt(mb, 3 + c));
            }
        }

        /** Predicts a BLOCK's samples, and fills it. */
        private void rebuild(int mb) {
            int at = 8 * mb;
            int kind = work.info[at + Work.KIND];
            int q = work.info[at + Work.STEP];
            if (kind == RAW) {
                samples.fillRaw(work, mb);
                return;
            }
            int sides = work.sides(mb);
            if (kind == BY_LISTS) {
                samples.predictByLists(work, mb);
            } else {
                samples.predictColours(work, mb, work.info[at + Work.COLOURS], sides);
            }
            if (kind == SIXTEEN) {
                samples.predictSixteen(work, mb, work.mode[16 * mb], sides);
                samples.fillSixteen(work, mb, q);
            }
            for (int b = 0; b < 16 && kind != SIXTEEN; b++) {
                if (kind == FOUR) {
                    samples.predictFour(work, mb, b, work.mode[16 * mb + b], Work.sidesOf(b, sides));
                }
                samples.fillLuma(work, mb, b, q);
            }
            samples.fillColours(work, mb, Samples.colourStep(q, work.par[P_APART]));
        }

        void endPicture() {
            if (!underWay) {
                return;
            }
            underWay = false;
            Picture pic = work.pic;
            pic.mended = edges.mend(work, store.ended, mendWay);
            mended += pic.mended;
            pic.isTrusted = pic.isTrusted && pic.mended == 0;
            edges.filter(work);
            boolean wiped = store.accept(pic, first, active);
            store.putAway(pic, first.isOwn() || wiped, first.isOwn() && first.v[Header.DROP] == 1);
        }
    }

    /** Codes PICTURES by costs or by chance. */
    private static final class Coder {
        static final int STEPS = 3;
        static final int MANY = 6;
        static final int REFS = 7;
        static final int WAY = 8;
        static final int SEED = 9;
        static final int REACH = 10;
        static final int SLICE = 11;
        static final int PERIOD = 12;
        static final int OFF = 13;
        static final int BUDGET = 16;
        static final int ALL_RAW = 17;
        static final int KIND = 18;
        static final int OWN = 19;
        static final int WEIGHTED = 20;
        static final int BOTH = 21;
        static final int SPACE = 22;
        static final int APART = 23;
        static final int SETTINGS = 24;
        static final int[] LEAST = {
            1, 1, 0, 12, 12, 12, 0, 1, 0, -2147483648, 0, 0, 0, 0, -6, -6, 0, 0, 0, 0, 0, 0, 0, -12
        };
        static final int[] MOST = {
            8, 8, 1, 51, 51, 51, 2, 3, 1, 2147483647, 4, 32, 30, 2, 6, 6, 1000000, 1, 2, 1, 1, 2, 1, 12
        };
        static final int[] AT_FIRST = {
            2, 2, 0, 28, 30, 32, 0, 1, 0, 1, 2, 0, 0, 0, 0, 0, 0, 0, 0, 0, 0, 0, 1, 0
        };
        static final int MOST_PICTURES = 60;
        static final int MOST_TRIES = 9;
        static final int LEAST_STEP = 12;
        static final int MOST_STEP = 51;
        static final int FRAMES = 256;
        /** The planes of INPUT stand behind those of the three that may wait. */
        static final int INPUT = 9;
        static final int SPARE = 6;
        static final int NEVER = 2147483647;
        /** Beside the kinds of BLOCKS: whose modes are drawn. */
        static final int COLOURS = -1;
        /** What stands where in choice, behind the best of each list: cost, kind, type or mode, FOUR's modes. */
        static final int COST = 10;
        static final int CHOSEN = 11;
        static final int TYPE = 12;
        static final int MODES = 13;

        final int[] setting = AT_FIRST.clone();
        final int[] now = new int[SETTINGS];
        final Writer writer = new Writer();
        private final Work work = new Work();
        private final Samples samples = new Samples();
        private final Edges edges = new Edges();
        private final Store store = new Store();
        private final int[] sequence = new int[S_ROW];
        private final int[][] planes = new int[12][0];
        private final int[][] source = new int[3][0];
        int waiting;
        private int come;
        private int ownAt;
        private int ownId;
        int chance;
        private int reserve;
        int codedCount;
        final int[] codedFact = new int[7 * MOST_PICTURES];
        private int spent;
        /** STEP of the BLOCK before. */
        private int step;
        /** For each list the best reference: cost, reference, x, y, bits; then what is chosen of all. */
        private final int[] choice = new int[10 + 19];

        Coder() {
            work.head = new Header();
            work.par = new int[P_ROW];
        }

        boolean isOpen() {
            return now[0] > 0;
        }

        boolean maySet(int what, int v) {
            return what >= 0 && what < SETTINGS && v >= LEAST[what] && v <= MOST[what];
        }

        int clash() {
            if (setting[0] * setting[1] > MOST_BLOCKS) {
                return 1;
            }
            if (setting[MANY] > 0 && (setting[REFS] < 2 || setting[KIND] != 0)) {
                return MANY;
            }
            return setting[BOTH] == 1 ? BOTH : -1;
        }

        /** OPEN. */
        void start() {
            System.arraycopy(setting, 0, now, 0, SETTINGS);
            waiting = 0;
            come = 0;
            ownAt = 0;
            ownId = 0;
            chance = now[SEED];
            reserve = 0;
            codedCount = 0;
            store.clear();
            writer.length = 0;
            writer.units = 0;
            fillSets();
            for (int i = 0; i < 12; i++) {
                int need = now[0] * now[1] * (i % 3 == 0 ? 256 : 64);
                if (planes[i].length < need) {
                    planes[i] = new int[planes[i].length == 0 ? need : MOST_BLOCKS * 256];
                }
            }
            paintFlat(128, 128, 128);
            writeSequence();
            writeParameters();
        }

        private void fillSets() {
            Arrays.fill(sequence, 0);
            sequence[S_WIDTH] = now[0];
            sequence[S_HEIGHT] = now[1];
            sequence[S_FRAME] = 8;
            sequence[S_KIND] = now[KIND];
            sequence[S_LOW] = 8;
            sequence[S_REFS] = now[REFS];
            Arrays.fill(work.par, 0);
            work.par[P_CODING] = now[2];
            work.par[P_N0] = now[REFS];
            work.par[P_N1] = 1;
            work.par[P_WEIGHTED] = now[WEIGHTED];
            work.par[P_BOTH] = now[BOTH];
            work.par[P_STEP] = now[STEPS] - 26;
            work.par[P_APART] = now[APART];
            work.par[P_EDGES] = 1;
            work.par[P_OWN] = now[OWN];
        }

        private void flag(int b) {
            writer.code(0, b, 1);
        }

        private void writeSequence() {
            writer.beginUnit(0x67);
            writer.code(0, 77, 8);
            writer.code(0, 0, 8);
            writer.code(0, 40, 8);
            writer.ue(0, 0);
            writer.ue(0, 4);
            writer.ue(0, now[KIND]);
            if (now[KIND] == 0) {
                writer.ue(0, 4);
            } else if (now[KIND] == 1) {
                flag(1);
                writer.se(0, 0);
                writer.se(0, 0);
                writer.ue(0, 1);
                writer.se(0, 2);
            }
            writer.ue(0, now[REFS]);
            flag(0);
            writer.ue(0, now[0] - 1);
            writer.ue(0, now[1] - 1);
            flag(1);
            flag(1);
            flag(0);
            flag(0);
            writer.endUnit(false);
        }

        private void writeParameters() {
            writer.beginUnit(0x68);
            writer.ue(0, 0);
            writer.ue(0, 0);
            flag(now[2]);
            flag(0);
            writer.ue(0, 0);
            writer.ue(0, now[REFS] - 1);
            writer.ue(0, 0);
            flag(now[WEIGHTED]);
            writer.code(0, now[BOTH], 2);
            writer.se(0, now[STEPS] - 26);
            writer.se(0, 0);
            writer.se(0, now[APART]);
            flag(1);
            flag(now[OWN]);
            flag(0);
            writer.endUnit(false);
        }

        private int wide(int p) {
            return now[0] * (p == 0 ? 16 : 8);
        }

        private int high(int p) {
            return now[1] * (p == 0 ? 16 : 8);
        }

        int inputSum() {
            return hash(planes[INPUT], 0, wide(0) * high(0));
        }

        void paintFlat(int a, int b, int c) {
            for (int p = 0; p < 3; p++) {
                Arrays.fill(planes[INPUT + p], (p == 0 ? a : p == 1 ? b : c) & 255);
            }
        }

        void paintSlope(int a, int b, int c) {
            for (int p = 0; p < 3; p++) {
                int unit = p == 0 ? 1 : 2;
                for (int i = 0; i < wide(p) * high(p); i++) {
                    int x = unit * (i % wide(p));
                    int y = unit * (i / wide(p));
                    planes[INPUT + p][i] = a * x + b * y + c + 40 * p & 255;
                }
            }
        }

        void paintNoise(int a, int b, int c) {
            int n = (a & 255) == 0 ? 256 : a & 255;
            int s = c;
            for (int p = 0; p < 3; p++) {
                int[] row = planes[INPUT + p];
                for (int i = 0; i < wide(p) * high(p); i++) {
                    s = 1664525 * s + 1013904223;
                    row[i] = clip(row[i] + (s >>> 24) % n - b);
                }
            }
        }

        void paintMoved(int a, int b) {
            for (int p = 0; p < 3; p++) {
                int wide = wide(p);
                int n = wide * high(p);
                System.arraycopy(planes[INPUT + p], 0, planes[SPARE + p], 0, n);
                for (int i = 0; i < n; i++) {
                    int x = moved(i % wide, p == 0 ? a : a / 2, wide);
                    int y = moved(i / wide, p == 0 ? b : b / 2, high(p));
                    planes[INPUT + p][i] = planes[SPARE + p][y * wide + x];
                }
            }
        }

        private static int moved(int x, int by, int n) {
            long from = (long) x - by;
            return from < 0 ? 0 : from >= n ? n - 1 : (int) from;
        }

        void paintSquare(int left, int top, int v) {
            for (int y = top; y < top + 8 && y < high(0); y++) {
                for (int x = left; x < left + 8 && x < wide(0); x++) {
                    planes[INPUT][y * wide(0) + x] = v;
                }
            }
        }

        private int draw(int n) {
            chance = 1664525 * chance + 1013904223;
            return n < 1 ? 0 : (chance >>> 8) % n;
        }

        boolean isSpent() {
            return come >= MOST_PICTURES || writer.length >= 60000 || writer.units >= 380 || spent >= 500;
        }

        /** INPUT comes to those that wait. */
        void hold() {
            for (int p = 0; p < 3; p++) {
                System.arraycopy(planes[INPUT + p], 0, planes[3 * waiting + p], 0, wide(p) * high(p));
            }
            waiting++;
            come++;
        }

        /** Whether the PICTURE that came last is an OWN one. */
        boolean opensAnew() {
            int number = come - 1;
            return number == 0 || now[PERIOD] > 0 && number % now[PERIOD] == 0;
        }

        void codePicture(int slot, int sort) {
            int blocks = now[0] * now[1];
            int length = writer.length;
            int units = writer.units;
            int before = chance;
            int q = now[STEPS + (sort == SORT_I ? 0 : sort == SORT_P ? 1 : 2)];
            int bits = 0;
            int tries = 0;
            beginPicture(slot, sort);
            while (tries < MOST_TRIES) {
                tries++;
                writer.length = length;
                writer.units = units;
                chance = before;
                beginTry(q);
                for (int mb = 0; mb < blocks; mb++) {
                    if (isSliceEdge(mb)) {
                        beginSlice(mb);
                        writeHeader();
                    }
                    if (now[ALL_RAW] == 1) {
                        work.info[8 * mb + Work.KIND] = RAW;
                    } else if (now[WAY] == 1) {
                        chooseByChance(mb);
                    } else {
                        chooseByCosts(mb);
                    }
                    int own = drawStep(mb);
                    build(mb, own);
                    writeBlock(mb);
                    writeMotion(mb);
                    writePattern(mb, own);
                    writeLevels(mb);
                    work.endBlock(mb);
                    endSlice(mb);
                }
                bits = 8 * (writer.length - length - 4 * (writer.units - units));
                if (now[BUDGET] == 0 || bits <= now[BUDGET] + reserve || q == MOST_STEP) {
                    break;
                }
                q = q + 6 > MOST_STEP ? MOST_STEP : q + 6;
            }
            endPicture(bits, q, tries);
        }

        private void beginPicture(int slot, int sort) {
            int number = come - waiting + slot;
            boolean own = sort == SORT_I;
            int[] v = work.head.v;
            Arrays.fill(v, 0);
            ownAt = own ? number : ownAt;
            v[Header.TYPE] = own ? 5 : 1;
            v[Header.SORT] = sort;
            v[Header.REF] = sort == SORT_B ? 0 : 1;
            v[Header.FRAME] = own ? 0 : (store.last + 1) % FRAMES;
            v[Header.ORDER] = 2 * (number - ownAt);
            v[Header.LOW] = now[KIND] == 0 ? v[Header.ORDER] & 255 : 0;
            v[Header.SPACE] = now[SPACE];
            v[Header.OFF] = now[OFF];
            v[Header.A] = now[OFF] == 1 ? 0 : now[OFF + 1];
            v[Header.B] = now[OFF] == 1 ? 0 : now[OFF + 2];
            if (own) {
                v[Header.OWN_ID] = ownId;
                ownId = 1 - ownId;
            } else {
                int shorts = store.shorts();
                v[Header.N0] = shorts < now[REFS] ? shorts : now[REFS];
                v[Header.N1] = sort == SORT_B ? 1 : 0;
            }
            for (int p = 0; p < 3; p++) {
                source[p] = planes[3 * slot + p];
            }
            work.pic = store.fresh(now[0], now[1]);
            work.pic.frame = v[Header.FRAME];
            work.pic.order = v[Header.ORDER];
        }

        private void beginTry(int q) {
            work.head.v[Header.STEP] = q;
            spent += now[0] * now[1];
            work.begin(work.pic);
        }

        private void endPicture(int bits, int q, int tries) {
            Picture pic = work.pic;
            int budget = now[BUDGET];
            edges.filter(work);
            if (budget > 0) {
                reserve = clamp(0, 4 * budget, reserve + budget - bits);
            }
            if (codedCount < MOST_PICTURES) {
                int at = 7 * codedCount;
                codedFact[at] = bits;
                codedFact[at + 1] = q;
                codedFact[at + 2] = work.head.v[Header.SORT];
                codedFact[at + 3] = tries;
                codedFact[at + 4] = pic.order;
                codedFact[at + 5] = hash(pic.plane[0], 0, 256 * pic.blocks());
                codedFact[at + 6] = reserve;
            }
            codedCount++;
            store.acceptCoded(pic, work.head, sequence);
            if (work.head.v[Header.REF] != 0) {
                store.last = pic.frame;
            }
        }

        private boolean isSliceEdge(int mb) {
            return mb == 0 || mb >= now[0] * now[1] || now[SLICE] > 0 && mb % now[SLICE] == 0;
        }

        private void beginSlice(int mb) {
            int[] v = work.head.v;
            v[Header.FIRST] = mb;
            step = v[Header.STEP];
            work.sliceNumber++;
            store.makeLists(work, FRAMES);
            writer.beginUnit(v[Header.REF] << 5 | v[Header.TYPE]);
            writer.run = 0;
        }

        private void writeHeader() {
            int[] v = work.head.v;
            writer.ue(0, v[Header.FIRST]);
            writer.ue(0, v[Header.SORT]);
            writer.ue(0, 0);
            writer.code(0, v[Header.FRAME], 8);
            if (work.head.isOwn()) {
                writer.ue(0, v[Header.OWN_ID]);
            }
            if (now[KIND] == 0) {
                writer.code(0, v[Header.LOW], 8);
            }
            if (v[Header.SORT] != SORT_I) {
                writeLists();
            }
            if (v[Header.SORT] == SORT_P && now[WEIGHTED] == 1) {
                writeWeights();
            }
            if (v[Header.REF] != 0) {
                flag(0);
            }
            if (work.head.isOwn()) {
                flag(0);
            }
            if (work.par[P_CODING] == 1 && v[Header.SORT] != SORT_I) {
                writer.ue(0, 0);
            }
            writer.se(0, v[Header.STEP] - now[STEPS]);
            writer.ue(0, v[Header.OFF]);
            if (v[Header.OFF] != 1) {
                writer.se(0, v[Header.A]);
                writer.se(0, v[Header.B]);
            }
            if (work.par[P_CODING] == 1) {
                writer.beginData();
            }
        }

        private void writeLists() {
            int[] v = work.head.v;
            boolean isB = v[Header.SORT] == SORT_B;
            if (isB) {
                flag(v[Header.SPACE]);
            }
            boolean isOther = v[Header.N0] != now[REFS];
            flag(isOther ? 1 : 0);
            if (isOther) {
                writer.ue(0, v[Header.N0] - 1);
            }
            if (isOther && isB) {
                writer.ue(0, 0);
            }
            flag(0);
            if (isB) {
                flag(0);
            }
        }

        private void writeWeights() {
            work.head.v[Header.SHIFT] = 5;
            work.head.v[Header.COLOUR_SHIFT] = 5;
            work.head.clearWeights();
            writer.ue(0, 5);
            writer.ue(0, 5);
            for (int r = 0; r < work.head.v[Header.N0] && r < 8; r++) {
                int at = Header.weightAt(0, r, 0);
                work.head.weight[at] = 32 + draw(9) - 4;
                work.head.weight[at + 1] = draw(9) - 4;
                flag(1);
                writer.se(0, work.head.weight[at]);
                writer.se(0, work.head.weight[at + 1]);
                flag(0);
            }
        }

        private void endSlice(int mb) {
            boolean isLast = isSliceEdge(mb + 1);
            boolean arith = work.par[P_CODING] == 1;
            if (arith) {
                writer.last(isLast);
            }
            if (!isLast) {
                return;
            }
            if (!arith && writer.run > 0) {
                writer.ue(E_SKIP, writer.run);
            }
            writer.endUnit(arith);
        }

        private static boolean mayBe(int kind, int mode, int sides) {
            if (kind == COLOURS) {
                return Work.mayBeColours(mode, sides);
            }
            return kind == FOUR ? Work.mayBeFour(mode, sides) : Work.mayBeSixteen(mode, sides);
        }

        /** One of the modes (of FOUR, of SIXTEEN, or colours') that may be. */
        private int drawMode(int kind, int most, int sides) {
            int n = 0;
            for (int mode = 0; mode < most; mode++) {
                n += mayBe(kind, mode, sides) ? 1 : 0;
            }
            int k = draw(n);
            for (int mode = 0; mode < most; mode++) {
                k -= mayBe(kind, mode, sides) ? 1 : 0;
                if (k < 0) {
                    return mode;
                }
            }
            return 0;
        }

        private void chooseByChance(int mb) {
            int at = 8 * mb;
            int sort = work.head.v[Header.SORT];
            int t = draw(16);
            if (t == 0) {
                if (draw(8) == 0) {
                    work.info[at + Work.KIND] = RAW;
                    return;
                }
                t = 1;
            }
            int sides = work.sides(mb);
            if (t == 1 || sort == SORT_I && t < 8) {
                work.info[at + Work.KIND] = SIXTEEN;
                Arrays.fill(work.mode, 16 * mb, 16 * mb + 16, drawMode(SIXTEEN, 4, sides));
                work.info[at + Work.COLOURS] = drawMode(COLOURS, 4, sides);
            } else if (t == 2 || sort == SORT_I) {
                work.info[at + Work.KIND] = FOUR;
                for (int b = 0; b < 16; b++) {
                    work.mode[16 * mb + b] = drawMode(FOUR, 9, Work.sidesOf(b, sides));
                }
                work.info[at + Work.COLOURS] = drawMode(COLOURS, 4, sides);
            } else {
                work.info[at + Work.KIND] = BY_LISTS;
                int type;
                if (sort == SORT_P) {
                    type = t == 3 ? -1 : t < 7 ? 0 : t < 9 ? 1 : t < 11 ? 2 : 3;
                } else {
                    type = t < 5 ? t - 4 : t < 12 ? 1 + draw(21) : 22;
                }
                drawByLists(mb, sort, type);
            }
        }

        /** A BLOCK by lists of a type; -1 SKIPPED. */
        private void drawByLists(int mb, int sort, int wish) {
            int type = wish;
            int direct = sort == SORT_B && type < 1 ? 15 : 0;
            if (direct == 15 && !work.direct(mb, 15)) {
                type = 1;
                direct = 0;
            }
            if (sort == SORT_P ? type == 3 : type == 22) {
                direct = drawSubs(mb, sort);
            }
            work.clearMoves(mb);
            if (direct != 0) {
                work.direct(mb, direct);
            }
            work.info[8 * mb + Work.TYPE] = type;
            if (direct == 15) {
                return;
            }
            if (type < 0) {
                work.skip(mb);
                return;
            }
            work.plan(sort, type);
            for (int list = 0; list < 2; list++) {
                int n = work.head.v[Header.N0 + list];
                for (int g = 0; g < work.groups; g++) {
                    if ((work.group[4 * g + 3] >> list & 1) == 1) {
                        work.setReference(mb, list, g, n > 1 ? draw(n) : 0);
                    }
                }
            }
            drawVectors(mb, 0);
            drawVectors(mb, 1);
        }

        /** Answers which quarters are DIRECT. */
        private int drawSubs(int mb, int sort) {
            int direct = 0;
            for (int q = 0; q < 4; q++) {
                int s = draw(sort == SORT_P ? 4 : 13);
                if (sort == SORT_B && s == 0) {
                    s = work.direct(mb, 1 << q) ? 0 : 1;
                    direct |= s == 0 ? 1 << q : 0;
                }
                work.sub[q] = s;
            }
            return direct;
        }

        private void drawVectors(int mb, int list) {
            int[] part = work.part;
            for (int p = 0; p < work.parts; p++) {
                int at = 5 * p;
                if ((part[at + 3] >> list & 1) == 0) {
                    continue;
                }
                int r = work.pic.reference[Picture.at(list, 16 * mb + part[at])];
                work.guess(mb, list, r, part[at], part[at + 1], part[at + 4]);
                int x = clamp(-2048, 2047, work.guessX + draw(33) - 16);
                int y = clamp(-2048, 2047, work.guessY + draw(33) - 16);
                setVector(mb, list, p, x, y);
            }
        }

        /** A VECTOR, and what it is more than its GUESS. */
        private void setVector(int mb, int list, int p, int x, int y) {
            work.difference[2 * (16 * list + p)] = x - work.guessX;
            work.difference[2 * (16 * list + p) + 1] = y - work.guessY;
            work.setMove(mb, list, p, x, y);
        }

        private int drawStep(int mb) {
            int q = work.head.v[Header.STEP];
            int at = 8 * mb;
            boolean isSkipped = work.info[at + Work.KIND] == BY_LISTS && work.info[at + Work.TYPE] < 0;
            if (now[WAY] == 0 || work.info[at + Work.KIND] == RAW || isSkipped || draw(4) != 0) {
                return q;
            }
            return clamp(LEAST_STEP, MOST_STEP, q + draw(5) - 2);
        }

        private void offer(int cost, int kind, int type) {
            if (cost < choice[COST]) {
                choice[COST] = cost;
                choice[CHOSEN] = kind;
                choice[TYPE] = type;
            }
        }

        private void chooseByCosts(int mb) {
            int sort = work.head.v[Header.SORT];
            choice[COST] = NEVER;
            choice[CHOSEN] = SIXTEEN;
            choice[TYPE] = 2;
            if (sort != SORT_I) {
                searchList(mb, 0);
                offer(choice[0], BY_LISTS, sort == SORT_P ? 0 : 1);
            }
            if (sort == SORT_B) {
                searchList(mb, 1);
                offer(choice[5], BY_LISTS, 2);
                offer(costOfBoth(mb), BY_LISTS, 3);
                offer(costOfDirect(mb), BY_LISTS, 0);
            }
            int sides = work.sides(mb);
            for (int mode = 0; mode < 4; mode++) {
                if (Work.mayBeSixteen(mode, sides)) {
                    samples.predictSixteen(work, mb, mode, sides);
                    offer(samples.differences(work, source[0], mb, 0, 16) + 8 * priceOfBit(), SIXTEEN, mode);
                }
            }
            offer(costOfFour(mb, sides), FOUR, 0);
            work.clearBlock(mb);
            work.info[8 * mb + Work.KIND] = choice[CHOSEN];
            if (choice[CHOSEN] == BY_LISTS) {
                useBest(mb, sort, choice[TYPE]);
            } else {
                for (int b = 0; b < 16; b++) {
                    work.mode[16 * mb + b] = choice[CHOSEN] == FOUR ? choice[MODES + b] : choice[TYPE];
                }
                chooseColours(mb, sides);
            }
        }

        private int priceOfBit() {
            return work.head.v[Header.STEP] / 4 + 1;
        }

        /** Finds the best reference and VECTOR of a list for the whole BLOCK. */
        private void searchList(int mb, int list) {
            choice[5 * list] = NEVER;
            for (int r = 0; r < work.head.v[Header.N0 + list]; r++) {
                work.guess(mb, list, r, 0, 16, 0);
                int midX = work.guessX + 2 >> 2;
                int midY = work.guessY + 2 >> 2;
                int reach = now[REACH];
                int least = NEVER;
                int x = 0;
                int y = 0;
                for (int i = 0; i < (2 * reach + 1) * (2 * reach + 1); i++) {
                    int tryX = 4 * (midX + i % (2 * reach + 1) - reach);
                    int tryY = 4 * (midY + i / (2 * reach + 1) - reach);
                    int cost = costOf(mb, list, r, tryX, tryY);
                    if (cost < least) {
                        least = cost;
                        x = tryX;
                        y = tryY;
                    }
                }
                for (int finer = 2; finer > 0 && least < NEVER; finer--) {
                    int baseX = x;
                    int baseY = y;
                    for (int i = 0; i < 9; i++) {
                        int tryX = baseX + finer * (i % 3 - 1);
                        int tryY = baseY + finer * (i / 3 - 1);
                        int cost = i == 4 ? NEVER : costOf(mb, list, r, tryX, tryY);
                        if (cost < least) {
                            least = cost;
                            x = tryX;
                            y = tryY;
                        }
                    }
                }
                noteBest(list, least, r, x, y);
            }
        }

        private void noteBest(int list, int cost, int r, int x, int y) {
            int at = 5 * list;
            if (cost < choice[at]) {
                choice[at] = cost;
                choice[at + 1] = r;
                choice[at + 2] = x;
                choice[at + 3] = y;
                choice[at + 4] = bitsOf(list, r, x, y);
            }
        }

        private int bitsOf(int list, int r, int x, int y) {
            int n = work.head.v[Header.N0 + list];
            return Writer.bitsOfUe(Writer.indexOfSe(x - work.guessX)) + Writer.bitsOfUe(Writer.indexOfSe(y - work.guessY))
                    + (n > 1 ? Writer.bitsOfTe(n - 1, r) : 0);
        }

        private int costOf(int mb, int list, int r, int x, int y) {
            if (x < -2048 || x > 2047 || y < -2048 || y > 2047) {
                return NEVER;
            }
            int[] motion = samples.motion;
            motion[3 - 3 * list] = -1;
            motion[3 * list] = r;
            motion[3 * list + 1] = x;
            motion[3 * list + 2] = y;
            samples.predictRegion(work, mb, 0, 16, false);
            return samples.differences(work, source[0], mb, 0, 16) + priceOfBit() * bitsOf(list, r, x, y);
        }

        private int costOfBoth(int mb) {
            if (choice[0] == NEVER || choice[5] == NEVER) {
                return NEVER;
            }
            for (int list = 0; list < 2; list++) {
                System.arraycopy(choice, 5 * list + 1, samples.motion, 3 * list, 3);
            }
            samples.predictRegion(work, mb, 0, 16, false);
            return samples.differences(work, source[0], mb, 0, 16) + priceOfBit() * (choice[4] + choice[9]);
        }

        private int costOfDirect(int mb) {
            if (!work.direct(mb, 15)) {
                return NEVER;
            }
            samples.predictByLists(work, mb);
            return samples.differences(work, source[0], mb, 0, 16);
        }

        private int costOfFour(int mb, int sides) {
            int cost = 0;
            int bits = 8;
            int q = work.head.v[Header.STEP];
            work.clearBlock(mb);
            work.info[8 * mb + Work.KIND] = FOUR;
            for (int b = 0; b < 16; b++) {
                int around = Work.sidesOf(b, sides);
                int guess = work.guessMode(mb, b);
                int least = NEVER;
                int chosen = 2;
                for (int mode = 0; mode < 9; mode++) {
                    if (!Work.mayBeFour(mode, around)) {
                        continue;
                    }
                    samples.predictFour(work, mb, b, mode, around);
                    int d = samples.differences(work, source[0], mb, b, 4);
                    chosen = d < least ? mode : chosen;
                    least = d < least ? d : least;
                }
                cost += least;
                bits += chosen == guess ? 1 : 4;
                choice[MODES + b] = chosen;
                work.mode[16 * mb + b] = chosen;
                samples.predictFour(work, mb, b, chosen, around);
                samples.measureLuma(work, source[0], mb, b, q, true);
                samples.fillLuma(work, mb, b, q);
            }
            return cost + priceOfBit() * bits;
        }

        private void useBest(int mb, int sort, int type) {
            work.info[8 * mb + Work.TYPE] = type;
            if (sort == SORT_B && type == 0) {
                work.direct(mb, 15);
                return;
            }
            work.plan(sort, type);
            for (int list = 0; list < 2; list++) {
                if ((work.part[3] >> list & 1) == 1) {
                    work.guess(mb, list, choice[5 * list + 1], 0, 16, 0);
                    work.setReference(mb, list, 0, choice[5 * list + 1]);
                    setVector(mb, list, 0, choice[5 * list + 2], choice[5 * list + 3]);
                }
            }
        }

        private void chooseColours(int mb, int sides) {
            int least = NEVER;
            for (int mode = 0; mode < 4; mode++) {
                if (Work.mayBeColours(mode, sides)) {
                    samples.predictColours(work, mb, mode, sides);
                    int d = samples.colourDifferences(work, source, mb);
                    if (d < least) {
                        least = d;
                        work.info[8 * mb + Work.COLOURS] = mode;
                    }
                }
            }
        }

        /** Finds the LEVELS of a BLOCK that is chosen, and fills it as the decoder will. */
        private void build(int mb, int q) {
            int at = 8 * mb;
            int kind = work.info[at + Work.KIND];
            int colourQ = Samples.colourStep(q, work.par[P_APART]);
            boolean isI = kind != BY_LISTS;
            boolean isSkipped = !isI && work.info[at + Work.TYPE] < 0;
            int sides = work.sides(mb);
            if (kind == RAW) {
                samples.takeRaw(work, source, mb);
                samples.fillRaw(work, mb);
                Arrays.fill(work.total, 24 * mb, 24 * mb + 24, 16);
                return;
            }
            if (isI) {
                samples.predictColours(work, mb, work.info[at + Work.COLOURS], sides);
            } else {
                samples.predictByLists(work, mb);
            }
            if (kind == SIXTEEN) {
                samples.predictSixteen(work, mb, work.mode[16 * mb], sides);
                work.info[at + Work.LUMA] = samples.measureSixteen(work, source[0], mb, q) ? 15 : 0;
                samples.fillSixteen(work, mb, q);
            } else {
                buildPieces(mb, q, sides, isSkipped);
            }
            if (!isSkipped) {
                work.info[at + Work.CHROMA] = samples.measureColours(work, source, mb, colourQ, isI);
            }
            samples.fillColours(work, mb, colourQ);
            if (now[WAY] == 0 && maySkip(mb)) {
                work.info[at + Work.TYPE] = -1;
            }
        }

        private void buildPieces(int mb, int q, int sides, boolean isSkipped) {
            int at = 8 * mb;
            boolean isFour = work.info[at + Work.KIND] == FOUR;
            for (int b = 0; b < 16; b++) {
                if (isFour) {
                    samples.predictFour(work, mb, b, work.mode[16 * mb + b], Work.sidesOf(b, sides));
                }
                if (!isSkipped && samples.measureLuma(work, source[0], mb, b, q, isFour) > 0) {
                    work.info[at + Work.LUMA] |= 1 << b / 4;
                }
                samples.fillLuma(work, mb, b, q);
            }
        }

        /** Whether a BLOCK by costs is one that SKIPPED tells as well. */
        private boolean maySkip(int mb) {
            int at = 8 * mb;
            if (work.info[at + Work.KIND] != BY_LISTS || work.info[at + Work.TYPE] != 0
                    || work.info[at + Work.LUMA] + work.info[at + Work.CHROMA] > 0) {
                return false;
            }
            if (work.head.v[Header.SORT] == SORT_B) {
                return true;
            }
            work.guessSkipped(mb);
            int piece = 16 * mb;
            return work.pic.reference[piece] == 0 && work.pic.move[2 * piece] == work.guessX
                    && work.pic.move[2 * piece + 1] == work.guessY;
        }

        private boolean isSkipped(int mb) {
            return work.info[8 * mb + Work.KIND] == BY_LISTS && work.info[8 * mb + Work.TYPE] < 0;
        }

        private void writeBlock(int mb) {
            int at = 8 * mb;
            int sort = work.head.v[Header.SORT];
            int kind = work.info[at + Work.KIND];
            if (sort != SORT_I && work.par[P_CODING] == 1) {
                writer.code(E_SKIP, isSkipped(mb) ? 1 : 0, 1);
            } else if (isSkipped(mb)) {
                writer.run++;
            } else if (sort != SORT_I) {
                writer.ue(E_SKIP, writer.run);
                writer.run = 0;
            }
            if (isSkipped(mb)) {
                return;
            }
            int bias = sort == SORT_I ? 0 : sort == SORT_P ? 5 : 23;
            if (kind == RAW) {
                writer.ue(E_TYPE, bias + 25);
                writer.rawSamples(samples.guess);
            } else if (kind == BY_LISTS) {
                int type = work.info[at + Work.TYPE];
                writer.ue(E_TYPE, type);
                for (int q = 0; q < 4 && type == (sort == SORT_P ? 3 : 22); q++) {
                    writer.ue(E_SUB, work.sub[q]);
                }
            } else if (kind == SIXTEEN) {
                int t = work.mode[16 * mb] + 4 * work.info[at + Work.CHROMA]
                        + (work.info[at + Work.LUMA] > 0 ? 12 : 0);
                writer.ue(E_TYPE, bias + 1 + t);
                writer.ue(E_COLOURS, work.info[at + Work.COLOURS]);
            } else {
                writer.ue(E_TYPE, bias);
                writeModes(mb);
                writer.ue(E_COLOURS, work.info[at + Work.COLOURS]);
            }
        }

        private void writeModes(int mb) {
            for (int b = 0; b < 16; b++) {
                int guess = work.guessMode(mb, b);
                int mode = work.mode[16 * mb + b];
                writer.code(E_GIVEN, mode == guess ? 1 : 0, 1);
                if (mode != guess) {
                    writer.code(E_REST, mode < guess ? mode : mode - 1, 3);
                }
            }
        }

        private void writeMotion(int mb) {
            int sort = work.head.v[Header.SORT];
            int type = work.info[8 * mb + Work.TYPE];
            if (work.info[8 * mb + Work.KIND] != BY_LISTS || type < 0 || sort == SORT_B && type == 0) {
                return;
            }
            work.plan(sort, type);
            for (int list = 0; list < 2; list++) {
                int n = work.head.v[Header.N0 + list];
                for (int g = 0; g < work.groups && n > 1; g++) {
                    if ((work.group[4 * g + 3] >> list & 1) == 1) {
                        int piece = 16 * mb + work.group[4 * g];
                        writer.te(E_REFERENCE, n - 1, work.pic.reference[Picture.at(list, piece)]);
                    }
                }
            }
            for (int list = 0; list < 2; list++) {
                for (int p = 0; p < work.parts; p++) {
                    if ((work.part[5 * p + 3] >> list & 1) == 1) {
                        writer.se(E_X, work.difference[2 * (16 * list + p)]);
                        writer.se(E_Y, work.difference[2 * (16 * list + p) + 1]);
                    }
                }
            }
        }

        private void writePattern(int mb, int q) {
            int at = 8 * mb;
            int kind = work.info[at + Work.KIND];
            if (kind == RAW) {
                return;
            }
            int pattern = work.info[at + Work.LUMA] + 16 * work.info[at + Work.CHROMA];
            if (kind != SIXTEEN && !isSkipped(mb)) {
                int base = kind == FOUR ? 0 : 48;
                for (int k = 0; k < 48; k++) {
                    if (Reader.PATTERN[base + k] == pattern) {
                        writer.ue(E_PATTERN, k);
                    }
                }
            }
            if (kind == SIXTEEN || pattern > 0) {
                // both are within 2 of the SLICE's STEP
                writer.se(E_MORE, q - step);
                step = q;
            }
            work.info[at + Work.STEP] = step;
        }

        private void writeLevels(int mb) {
            int at = 8 * mb;
            int[] level = work.level;
            boolean isSixteen = work.info[at + Work.KIND] == SIXTEEN;
            if (isSixteen) {
                writer.levels(work.tokenTable(mb, 0), 16, level, Work.levelAt(mb, 16));
            }
            for (int b = 0; b < 16; b++) {
                if ((work.info[at + Work.LUMA] >> b / 4 & 1) == 1) {
                    writer.levels(work.tokenTable(mb, b), isSixteen ? 15 : 16, level, Work.levelAt(mb, b));
                }
            }
            for (int p = 1; p < 3 && work.info[at + Work.CHROMA] > 0; p++) {
                writer.levels(4, 4, level, Work.levelAt(mb, 16 + p));
            }
            for (int c = 16; c < 24 && work.info[at + Work.CHROMA] == 2; c++) {
                writer.levels(work.tokenTable(mb, c), 15, level, Work.levelAt(mb, 3 + c));
            }
        }
    }
}
