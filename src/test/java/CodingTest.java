/** Section 8: what the coder draws and chooses, its limits, HEADERS and what INPUT becomes. */
public final class CodingTest {
    private static final int NONE = -1;
    private static int chance;

    public static void main(String[] args) {
        drawnOwn();
        drawnP();
        drawnB();
        drawnWeights();
        drawnSteps();
        limits();
        triesCount();
        inputStays();
        headers();
        numbersTold();
        slicesMade();
        zerosMade();
        skippedByCosts();
        reaches();
        firstOfLeast();
        coloursByCosts();
        colours128();
        finishKeepsOrder();
        openAnew();
        openBehindLimits();
        manySlices();
        noiseOfOne();
        emulation();
        slicesToTheByte();
        drawnFourBlocks();
        Check.end();
    }

    private static VideoSuite open(int... settings) {
        VideoSuite v = new VideoSuite();
        for (int i = 0; i < settings.length; i += 2) {
            v.setting(settings[i], settings[i + 1]);
        }
        v.open();
        return v;
    }

    private static VideoSuite decoded(VideoSuite v) {
        v.take();
        v.decode(400);
        Check.due("P24 no FAULTS", v.count(4), 0);
        return v;
    }

    private static int draw(int n) {
        chance = 1664525 * chance + 1013904223;
        return (chance >>> 8) % n;
    }

    /** The STEP of a BLOCK that is drawn last. */
    private static int drawStep(int step) {
        return draw(4) == 0 ? Math.max(12, Math.min(51, step + draw(5) - 2)) : step;
    }

    /** How many modes of FOUR may be for a piece of a BLOCK alone; which is the k-th. */
    private static int four(int b) {
        boolean left = b % 2 == 1 || b / 4 % 2 == 1;
        boolean above = b / 2 % 2 == 1 || b >= 8;
        String may = left && above ? "012345678" : left ? "128" : above ? "0237" : "2";
        return may.charAt(draw(may.length())) - '0';
    }

    /** An I BLOCK alone, as it is drawn. */
    private static void drawnI(VideoSuite v, String what, boolean isRaw, boolean isSixteen, int step) {
        if (isRaw) {
            Check.due(what + ": RAW", v.block(0, 0), 2);
        } else if (isSixteen) {
            draw(1);
            draw(1);
            Check.due(what + ": SIXTEEN", v.block(0, 0), 1);
            Check.due(what + ": its STEP", v.block(0, 2), drawStep(step));
        } else {
            Check.due(what + ": FOUR", v.block(0, 0), 0);
            for (int b = 0; b < 16; b++) {
                Check.due(what + ": mode of " + b, v.block(0, 8 + b), four(b));
            }
            draw(1);
            stepOf(v, what, step, drawStep(step));
        }
        Check.due(what + ": colours' mode", v.block(0, 5), 0);
    }

    /** Without patterns the STEP is the one before. */
    private static void stepOf(VideoSuite v, String what, int step, int drawn) {
        boolean has = v.block(0, 3) + v.block(0, 4) > 0;
        Check.due(what + ": its STEP", v.block(0, 2), has ? drawn : step);
    }

    private static void ownBlock(VideoSuite v, String what, int step) {
        int t = draw(16);
        boolean raw = t == 0 && draw(8) == 0;
        drawnI(v, what, raw, t < 8, step);
    }

    private static void blockOfP(VideoSuite v, String what, int step, int refs) {
        int[] parts = {1, 2, 2};
        int[] subParts = {1, 2, 2, 4};
        int t = draw(16);
        boolean raw = t == 0 && draw(8) == 0;
        if (t < 3) {
            drawnI(v, what, raw, t < 2, step);
            return;
        }
        int type = t == 3 ? NONE : t < 7 ? 0 : t < 9 ? 1 : t < 11 ? 2 : 3;
        Check.due(what + ": type", v.block(0, 1), type);
        int groups = type == NONE ? 0 : type == 3 ? 4 : parts[type];
        int moves = type == NONE || type == 3 ? 0 : parts[type];
        for (int q = 0; q < 4 && type == 3; q++) {
            moves += subParts[draw(4)];
        }
        for (int g = 0; g < groups; g++) {
            int r = refs > 1 ? draw(refs) : 0;
            Check.due(what + ": reference " + g, v.vector(0, type == 1 ? 8 * g : 4 * g, 0, 2), r);
        }
        for (int i = 0; i < moves; i++) {
            int x = draw(33) - 16;
            int y = draw(33) - 16;
            if (i == 0) {
                Check.due(what + ": x", v.vector(0, 0, 0, 0), x);
                Check.due(what + ": y", v.vector(0, 0, 0, 1), y);
            }
        }
        stepOf(v, what, step, type == NONE ? step : drawStep(step));
        Check.due(what + ": SKIPPED has no LEVELS", type == NONE ? v.block(0, 3) + v.block(0, 4) : 0, 0);
    }

    /** Of two references by list 0 and one by list 1; gone: the quarters whose DIRECT would be 4. */
    private static void blockOfB(VideoSuite v, String what, int step, int gone) {
        int[] subMoves = {0, 1, 1, 2, 2, 2, 2, 2, 4, 4, 4, 4, 8};
        int[] subFirst = {0, 1, 0, 1, 1, 1, 0, 0, 1, 1, 1, 0, 1};
        int[] moves = {0, 1, 1, 2, 2, 2, 2, 2, 2, 2, 2, 2, 3, 3, 3, 3, 3, 3, 3, 3, 4, 4, 0};
        int[] first = {0, 1, 0, 1, 2, 2, 0, 0, 1, 1, 1, 1, 2, 2, 1, 1, 2, 2, 1, 1, 2, 2, 0};
        int t = draw(16);
        boolean raw = t == 0 && draw(8) == 0;
        if (t < 3) {
            drawnI(v, what, raw, t < 2, step);
            return;
        }
        boolean isDirect = t < 5 && gone == 0;
        int type = t < 5 ? (isDirect ? 0 : 1) : t < 12 ? 1 + draw(21) : 22;
        Check.due(what + ": type", v.block(0, 1), t == 3 && isDirect ? NONE : type);
        if (type == 1) {
            Check.due(what + ": not by list 1", v.vector(0, 15, 1, 2), -1);
        }
        int n = first[type];
        int m = moves[type];
        for (int q = 0; q < 4 && type == 22; q++) {
            int sub = draw(13);
            sub = sub == 0 && (gone >> q & 1) == 1 ? 1 : sub;
            n += subFirst[sub];
            m += subMoves[sub];
            Check.due(what + ": by list 0 as sub " + sub, v.vector(0, 4 * q, 0, 2) >= 0 ? 1 : 0, sub == 0 ? 1 : subFirst[sub]);
        }
        for (int i = 0; i < n; i++) {
            draw(2);
        }
        for (int i = 0; i < 2 * m; i++) {
            draw(33);
        }
        stepOf(v, what, step, t == 3 && isDirect ? step : drawStep(step));
    }

    private static void drawnOwn() {
        for (int seed = -40; seed < 60; seed++) {
            VideoSuite v = open(0, 1, 1, 1, 8, 1, 9, seed * 1000003, 2, seed & 1, 3, 28);
            v.paint(2, 200, 100, seed);
            v.encode();
            chance = seed * 1000003;
            ownBlock(decoded(v), "OWN of seed " + seed, 28);
            Check.due("P41 CHANCE behind OWN of seed " + seed, v.count(13), chance);
        }
    }

    private static void drawnP() {
        for (int seed = 0; seed < 100; seed++) {
            int refs = 1 + seed % 3;
            VideoSuite v = open(0, 1, 1, 1, 9, seed * 77777, 2, seed & 1, 3, 20, 4, 30, 7, refs, 8, 1);
            v.paint(2, 200, 100, seed);
            for (int i = 0; i < 5; i++) {
                v.encode();
            }
            chance = seed * 77777;
            v.take();
            v.decode(3);
            ownBlock(v, "OWN of seed " + seed, 20);
            for (int i = 1; i < 5; i++) {
                v.decode(1);
                blockOfP(v, "P " + i + " of seed " + seed, 30, Math.min(i, refs));
            }
            Check.due("P41 CHANCE behind P of seed " + seed, v.count(13), chance);
        }
    }

    private static void drawnB() {
        int found = 0;
        for (int seed = 0; seed < 400; seed++) {
            VideoSuite v = open(0, 1, 1, 1, 9, seed * 99991, 2, seed & 1, 3, 20, 4, 30, 5, 33, 6, 1, 7, 2, 8, 1, 22, seed / 2 & 1);
            v.paint(2, 200, 100, seed);
            for (int i = 0; i < 5; i++) {
                v.encode();
            }
            chance = seed * 99991;
            v.take();
            v.decode(3);
            ownBlock(v, "OWN of seed " + seed, 20);
            for (int i = 1; i < 3; i++) {
                v.decode(1);
                blockOfP(v, "ANCHOR " + i + " of seed " + seed, 30, i);
                int gone = i == 2 && v.block(0, 0) == 3 && (seed / 2 & 1) == 0 ? olderCorners(v) : 0;
                found += gone > 0 ? 1 : 0;
                v.decode(1);
                blockOfB(v, "B " + i + " of seed " + seed, 33, gone);
            }
            Check.due("P41 CHANCE behind B of seed " + seed, v.count(13), chance);
        }
        Check.due("some DIRECT ones would be 4", found > 9 ? 1 : 0, 1);
    }

    /** The quarters whose CORNER piece refers to the older picture, that is gone for the next one. */
    private static int olderCorners(VideoSuite v) {
        int mask = 0;
        for (int q = 0; q < 4; q++) {
            mask |= v.vector(0, 5 * q, 0, 2) == 1 ? 1 << q : 0;
        }
        return mask;
    }

    private static void drawnWeights() {
        for (int way = 0; way < 2; way++) {
            for (int refs = 1; refs <= 3; refs++) {
                VideoSuite v = open(0, 2, 1, 1, 7, refs, 8, 0, 9, 5, 11, 1 - way, 20, 1, 10, 0);
                for (int i = 0; i < refs; i++) {
                    v.encode();
                }
                chance = v.count(13);
                v.encode();
                int slices = way == 1 ? 1 : 2;
                for (int i = 0; i < slices * refs; i++) {
                    draw(9);
                    draw(9);
                }
                Check.due("P41 two draws for each entry of each SLICE", v.count(13), chance);
                decoded(v);
            }
        }
        VideoSuite v = open(0, 1, 1, 1, 7, 2, 9, 5, 20, 1, 10, 0);
        v.encode();
        Check.due("P41 none for I", v.count(13), 5);
        v.encode();
        decoded(v);
        chance = 5;
        int w = 32 + draw(9) - 4;
        int o = draw(9) - 4;
        // first, sort, PARAMETERS, FRAME, LOW, N0 told, N0, moves, a, c, 1, w, o, 0, ops, step
        int[] due = {0, 0, 0, 1, 2, 1, 0, 0, 5, 5, 1, w, o, 0, 0, 2};
        for (int i = 0; i < due.length; i++) {
            Check.due("P25 HEADER with WEIGHTS, ELEMENT " + i, v.element(i, 2), due[i]);
        }
    }

    /** A STEP that is drawn stays within 12 .. 51. */
    private static void drawnSteps() {
        int[] steps = {12, 13, 50, 51};
        for (int step : steps) {
            boolean[] seen = new boolean[60];
            for (int seed = 0; seed < 40; seed++) {
                VideoSuite v = open(0, 2, 1, 2, 3, step, 8, 1, 9, seed * 4241);
                v.paint(2, 0, 128, seed);
                v.encode();
                decoded(v);
                for (int mb = 0; mb < 4; mb++) {
                    int q = v.block(mb, 2);
                    Check.due("P29 STEP " + q + " beside " + step, v.block(mb, 0) == 2 || q >= 12 && q <= 51
                            && Math.abs(q - step) < 3 ? 1 : 0, 1);
                    seen[q] = true;
                }
            }
            int near = step == 12 ? 14 : step == 13 ? 12 : step == 50 ? 51 : 49;
            Check.due("P29 STEP " + near + " is drawn", seen[near] ? 1 : 0, 1);
        }
    }

    private static void limits() {
        // 20 BLOCKS: 25 PICTURES are 500
        VideoSuite v = open(0, 5, 1, 4, 3, 51, 4, 51, 10, 0);
        for (int i = 0; i < 25; i++) {
            Check.due("P29 below 500 BLOCKS", v.encode(), i + 1);
        }
        Check.refused("P29 500 BLOCKS", v::encode);
        // 32 BLOCKS 15 times, then, behind another OPEN, one by one: 499 are below 500
        VideoSuite o = open(0, 8, 1, 4, 3, 51, 4, 51, 10, 0);
        for (int i = 0; i < 15; i++) {
            o.encode();
        }
        o.setting(0, 1);
        o.setting(1, 1);
        o.open();
        for (int i = 0; i < 20; i++) {
            Check.answers("P29 " + (480 + i) + " BLOCKS", i + 1, o::encode);
        }
        Check.refused("P29 500 BLOCKS ever", o::encode);
        o.open();
        Check.refused("P29 500 BLOCKS ever, behind OPEN", o::encode);
        // 18 SLICES: 21 PICTURES are 378 UNITS, with the SETS 380
        VideoSuite u = open(0, 6, 1, 3, 3, 51, 4, 51, 10, 0, 11, 1);
        for (int i = 0; i < 21; i++) {
            Check.due("P29 below 380 UNITS", u.encode(), i + 1);
        }
        Check.refused("P29 380 UNITS", u::encode);
        Check.due("P32 380 UNITS", u.take(), 380);
        // PICTURES that wait count too
        VideoSuite w = open(0, 1, 1, 1, 6, 2, 7, 2);
        for (int i = 0; i < 60; i++) {
            w.encode();
        }
        Check.due("P41 60 have come, two wait", w.count(11), 2);
        Check.refused("P29 60 since OPEN", w::encode);
        Check.due("P41 they wait still", w.count(11), 2);
        Check.due("P30 finish", w.finish(), 60);
        Check.due("P33 the 60th", w.coded(59, 4), 2 * 59);
        Check.missing("P33 no 61st", () -> w.coded(60, 4));
    }

    /** 500 BLOCKS, each try counts. */
    private static void triesCount() {
        // 8 tries from STEP 12 on, 8 BLOCKS: 64 each; 7 PICTURES are 448, 8 are 512
        VideoSuite v = open(0, 4, 1, 2, 3, 12, 4, 12, 10, 0, 16, 1);
        for (int i = 0; i < 8; i++) {
            v.paint(2, 0, 128, i);
            v.encode();
            Check.due("P33 tries", v.coded(i, 3), 8);
            Check.due("P33 STEP", v.coded(i, 1), 51);
        }
        Check.refused("P29 512 BLOCKS", v::encode);
        // 6 more, 51 at most: from 44 on two tries more
        int[] steps = {51, 50, 45, 44, 39};
        int[] tries = {1, 2, 2, 3, 3};
        for (int i = 0; i < steps.length; i++) {
            VideoSuite w = open(0, 1, 1, 1, 3, steps[i], 16, 1);
            w.paint(2, 0, 128, i);
            w.encode();
            Check.due("P33 tries from " + steps[i], w.coded(0, 3), tries[i]);
        }
        // what is as large as budget and RESERVE fits; RESERVE goes from 0 to four budgets
        VideoSuite plain = open(0, 1, 1, 1);
        plain.paint(2, 90, 45, 4);
        plain.encode();
        int bits = plain.coded(0, 0);
        for (int less = 0; less < 2; less++) {
            VideoSuite w = open(0, 1, 1, 1, 16, bits - less);
            w.paint(2, 90, 45, 4);
            w.encode();
            Check.due("P33 a budget of its bits, less " + less, w.coded(0, 3) > 1 ? 1 : 0, less);
            Check.due("P33 RESERVE", w.coded(0, 6), Math.max(0, bits - less - w.coded(0, 0)));
        }
    }

    private static void inputStays() {
        VideoSuite v = open(0, 1, 1, 1, 17, 1);
        v.paint(2, 200, 77, 9);
        int sum = v.paint(3, 0, 0, 0);
        v.encode();
        v.encode();
        Check.due("P29 INPUT stays", v.paint(3, 0, 0, 0), sum);
        decoded(v).flush();
        for (int p = 0; p < 3; p++) {
            Check.due("P29 the same again, plane " + p, v.sum(1, p), v.sum(0, p));
        }
        Check.due("P29 its samples", v.sum(0, 0), sum);
        // what waits is as it was when it came
        VideoSuite w = open(0, 1, 1, 1, 17, 1, 6, 2, 7, 2);
        int[] sums = new int[4];
        for (int i = 0; i < 4; i++) {
            sums[i] = w.paint(2, 200, 77, i);
            w.encode();
        }
        decoded(w).flush();
        for (int k = 0; k < 4; k++) {
            Check.due("P29 as it came, " + k, w.sum(k, 0), sums[k]);
        }
    }

    private static void told(String what, VideoSuite v, int... due) {
        for (int i = 0; i < due.length; i++) {
            Check.due(what + ", ELEMENT " + i, v.element(i, 2), due[i]);
        }
    }

    private static VideoSuite upTo(VideoSuite v, int units) {
        v.take();
        v.decode(units);
        Check.due("P24 no FAULTS", v.count(4), 0);
        return v;
    }

    /** HEADERS of all sorts, by both codings. */
    private static void headers() {
        for (int coding = 0; coding < 2; coding++) {
            VideoSuite v = open(0, 1, 1, 1, 2, coding, 3, 20, 4, 31, 5, 44, 6, 1, 7, 2, 10, 0, 13, 2, 14, -6, 15, 6, 22, 0);
            for (int i = 0; i < 5; i++) {
                v.encode();
            }
            // OWN: first, sort, PARAMETERS, FRAME, own id, LOW, drop, long, step, off, A, B
            told("OWN", upTo(v, 3), 0, 2, 0, 0, 0, 0, 0, 0, 0, 2, -6, 6);
            // P of number 2: N0 1 is told; no moves, no ops; ue 0 in ARITH
            int[] p = {0, 0, 0, 1, 4, 1, 0, 0, 0, 0, 11, 2, -6, 6};
            int[] plain = {0, 0, 0, 1, 4, 1, 0, 0, 0, 11, 2, -6, 6};
            told("P", upTo(v, 4), coding == 1 ? p : plain);
            // B of number 1: space, N as it is, no moves
            int[] b = {0, 1, 0, 2, 2, 0, 0, 0, 0, 0, 24, 2, -6, 6};
            int[] plainB = {0, 1, 0, 2, 2, 0, 0, 0, 0, 24, 2, -6, 6};
            told("B", upTo(v, 5), coding == 1 ? b : plainB);
            // the next P has FRAME 2, too
            told("P again", upTo(v, 6), 0, 0, 0, 2, 8, 0);
            Check.due("P17 REF of P", v.slice(11), 1);
            upTo(v, 7);
            Check.due("P17 REF of B", v.slice(11), 0);
            Check.due("P17 FRAME of B", v.slice(3), 3);
        }
        VideoSuite v = open(0, 1, 1, 1, 13, 1, 14, 3, 15, 3, 18, 1);
        v.encode();
        v.encode();
        // off 1: no A, B; kind 1: no LOW
        told("OWN, off 1, kind 1", upTo(v, 3), 0, 2, 0, 0, 0, 0, 0, 0, 1);
        told("P, off 1, kind 1", upTo(v, 4), 0, 0, 0, 1, 0, 0, 0, 2, 1);
        Check.due("P17 its ORDER", v.slice(17), 2);
        Check.due("P33 its ORDER", v.coded(1, 4), 2);
    }

    private static void numbersTold() {
        // REFS 3, MANY 1: the first B has two SHORT ones: N0 2 and N1 1 are told
        VideoSuite v = open(0, 1, 1, 1, 6, 1, 7, 3, 10, 0);
        for (int i = 0; i < 7; i++) {
            v.encode();
        }
        told("B, N told", upTo(v, 5), 0, 1, 0, 2, 2, 1, 1, 1, 0, 0, 0);
        Check.due("P17 N0", v.slice(9), 2);
        Check.due("P17 N1", v.slice(10), 1);
        upTo(v, 7);
        Check.due("P17 N0 of the next B", v.slice(9), 3);
        Check.due("P25 it is not told", v.element(6, 2), 0);
    }

    /** Each SLICE is a UNIT; its first BLOCK is told; the last one has what is left. */
    private static void slicesMade() {
        for (int n = 0; n <= 7; n++) {
            VideoSuite v = open(0, 3, 1, 2, 11, n, 3, 40);
            v.encode();
            int slices = n == 0 ? 1 : (6 + n - 1) / n;
            Check.due("P32 UNITS with SLICE blocks " + n, v.take(), 2 + slices);
            int bits = 0;
            for (int k = 2; k < 2 + slices; k++) {
                bits += 8 * v.unit(k, 2);
                Check.due("P5 TYPE", v.unit(k, 0), 5);
                Check.due("P5 REF", v.unit(k, 1), 1);
            }
            Check.due("P33 bits of all its UNITS", v.coded(0, 0), bits);
            for (int k = 0; k < slices; k++) {
                v.anew();
                v.decode(3 + k);
                Check.due("P17 first", v.slice(0), k * n);
                Check.due("P17 BLOCKS", v.slice(16), n == 0 ? 6 : Math.min(n, 6 - k * n));
            }
        }
    }

    /** RAW of 0: bytes 0 with a 3 between; the UNIT's bytes count with them. */
    private static void zerosMade() {
        VideoSuite v = allZero();
        int n = v.unit(2, 2);
        Check.due("P5 bytes 3 are left out", n - v.unit(2, 3) > 180 ? 1 : 0, 1);
        Check.due("P33 they count", v.coded(0, 0), 8 * n);
        int zeros = 0;
        // an object answers 512 calls alone
        VideoSuite w = allZero();
        for (int i = 0; i < n; i++) {
            int b = (i < 300 ? v : w).unitByte(2, i);
            Check.due("P29 two 0 and less than 3 never stand so", zeros > 1 && b < 3 ? 1 : 0, 0);
            zeros = b == 0 ? zeros + 1 : 0;
        }
        v.decode(3);
        v.flush();
        Check.due("P14 all are 0", v.histogram(0, 0, 0) + v.histogram(0, 1, 0) + v.histogram(0, 2, 0), 384);
    }

    private static VideoSuite allZero() {
        VideoSuite v = open(0, 1, 1, 1, 17, 1);
        v.paint(0, 0, 0, 0);
        v.encode();
        v.take();
        return v;
    }

    private static void skippedByCosts() {
        // the same INPUT again, RAW-like by STEP 12: nothing is left that STEP 51 tells
        VideoSuite v = open(0, 2, 1, 2, 3, 12, 4, 51, 5, 51, 6, 1, 7, 2);
        v.paint(1, 2, 1, 30);
        for (int i = 0; i < 3; i++) {
            v.encode();
        }
        v.take();
        v.decode(4);
        Check.due("P18 P: SKIPPED", v.block(3, 1), -1);
        Check.due("P18 P: all in one run", v.count(8), 14);
        v.decode(1);
        Check.due("P18 B: SKIPPED", v.block(3, 1), -1);
    }

    /** What moved by some samples is found within reach, and not beyond. */
    private static void reaches() {
        for (int reach = 0; reach <= 4; reach++) {
            for (int by = 0; by <= 5; by++) {
                VideoSuite v = open(0, 2, 1, 2, 3, 12, 4, 12, 10, reach);
                v.paint(2, 0, 128, 9);
                v.encode();
                v.paint(3, by, -by, 0);
                v.encode();
                v.take();
                v.decode(4);
                boolean isThere = v.vector(2, 0, 0, 2) == 0 && v.vector(2, 0, 0, 0) == -4 * by && v.vector(2, 0, 0, 1) == 4 * by;
                if (by <= reach || by > reach + 1) {
                    // BLOCK 2 sees what comes from above and from the right
                    Check.due("P29 reach " + reach + ", moved by " + by, isThere ? 1 : 0, by <= reach && by < 5 ? 1 : 0);
                }
            }
        }
    }

    /** Where all cost the same the first is taken. */
    private static void firstOfLeast() {
        VideoSuite v = open(0, 2, 1, 2, 7, 2, 10, 1);
        for (int i = 0; i < 3; i++) {
            v.encode();
        }
        v.take();
        v.decode(3);
        // nothing, left, above, both: modes 2, 1, 0, 0
        int[] modes = {2, 1, 0, 0};
        for (int mb = 0; mb < 4; mb++) {
            Check.due("P18 SIXTEEN before FOUR", v.block(mb, 0), 1);
            Check.due("P18 the first mode of the least", v.block(mb, 8), modes[mb]);
            Check.due("P18 the first of colours'", v.block(mb, 5), 0);
        }
        v.decode(2);
        for (int mb = 0; mb < 4; mb++) {
            Check.due("P19 the first reference", v.vector(mb, 0, 0, 2), 0);
            Check.due("P19 at the GUESS", v.vector(mb, 0, 0, 0), 0);
        }
    }

    private static void coloursByCosts() {
        // chroma that goes from row to row: its left is told best by mode 1, from column to column by 2
        for (int way = 1; way < 3; way++) {
            VideoSuite v = open(0, 2, 1, 2, 3, 51);
            v.paint(1, way == 1 ? 0 : 9, way == 1 ? 9 : 0, 0);
            v.encode();
            v.take();
            v.decode(3);
            Check.due("P18 colours' mode " + way, v.block(way == 1 ? 1 : 2, 5), way);
        }
        // from row to row and from column to column: the plane, where all it needs is THERE
        VideoSuite v = open(0, 2, 1, 2, 3, 12);
        v.paint(1, 2, 2, 0);
        v.encode();
        v.take();
        v.decode(3);
        Check.due("P18 colours' mode 3", v.block(3, 5), 3);
    }

    private static void colours128() {
        VideoSuite v = open(0, 1, 1, 1, 17, 1);
        v.encode();
        decoded(v).flush();
        for (int p = 0; p < 3; p++) {
            Check.due("P27 INPUT is 128 behind OPEN", v.histogram(0, p, 128), p == 0 ? 256 : 64);
        }
    }

    private static void finishKeepsOrder() {
        VideoSuite v = open(0, 1, 1, 1, 6, 2, 7, 2);
        for (int i = 0; i < 3; i++) {
            v.encode();
        }
        Check.due("P30 two wait", v.count(11), 2);
        Check.due("P30 finish", v.finish(), 3);
        int[] sorts = {2, 0, 0};
        for (int k = 0; k < 3; k++) {
            Check.due("P33 sort", v.coded(k, 2), sorts[k]);
            Check.due("P33 ORDER", v.coded(k, 4), 2 * k);
        }
        // behind it the next ones go on
        Check.due("P29 one waits", v.encode(), 3);
        Check.due("P29 two wait", v.encode(), 3);
        Check.due("P29 three are coded", v.encode(), 6);
        Check.due("P33 the ANCHOR first", v.coded(3, 4), 10);
        Check.due("P33 then B", v.coded(4, 4), 6);
        Check.due("P33 then B", v.coded(5, 4), 8);
        decoded(v);
        Check.due("P12 all", v.flush(), 6);
    }

    private static void openAnew() {
        VideoSuite v = open(0, 1, 1, 1, 6, 1, 7, 2, 9, 42, 8, 1, 16, 5000);
        for (int i = 0; i < 4; i++) {
            v.paint(2, 90, 45, i);
            v.encode();
        }
        int made = v.count(9);
        int chanceThen = v.count(13);
        int first = v.coded(0, 0);
        v.setting(3, 40);
        v.setting(3, 28);
        v.open();
        Check.due("P27 the SETS alone are MADE", v.count(9) < 40 ? 1 : 0, 1);
        Check.due("P27 none coded", v.count(10), 0);
        Check.due("P27 none waits", v.count(11), 0);
        Check.due("P27 CHANCE", v.count(13), 42);
        for (int i = 0; i < 4; i++) {
            v.paint(2, 90, 45, i);
            v.encode();
        }
        Check.due("P27 all as it was: MADE", v.count(9), made);
        Check.due("P27 all as it was: CHANCE", v.count(13), chanceThen);
        Check.due("P27 all as it was: bits", v.coded(0, 0), first);
        decoded(v);
        Check.due("P17 own id begins with 0", v.slice(4), 0);
        // a SETTING counts for the next OPEN alone
        v.setting(0, 2);
        v.encode();
        v.finish();
        v.take();
        v.decode(400);
        Check.due("P26 for the next OPEN", v.set(0, 0, 0), 1);
    }

    /** OPEN begins UNITS and PICTURES anew, not the BLOCKS ever coded; RESERVE is 0 again. */
    private static void openBehindLimits() {
        VideoSuite v = open(0, 1, 1, 1, 16, 100000);
        for (int i = 0; i < 60; i++) {
            v.encode();
        }
        Check.due("P33 RESERVE, four budgets", v.coded(59, 6), 400000);
        v.open();
        v.encode();
        Check.due("P33 RESERVE behind OPEN", v.coded(0, 6), 100000 - v.coded(0, 0));
        // 8 SLICES each: 40 PICTURES are 322 UNITS; 320 BLOCKS
        VideoSuite w = open(0, 4, 1, 2, 11, 1, 3, 51, 4, 51, 10, 0);
        for (int i = 0; i < 40; i++) {
            w.encode();
        }
        w.open();
        for (int i = 0; i < 22; i++) {
            Check.due("P29 behind OPEN", w.encode(), i + 1);
        }
        Check.due("P32 178 UNITS", w.take(), 178);
        // 496 BLOCKS now: one PICTURE more, then none
        Check.due("P29 496 BLOCKS", w.encode(), 23);
        Check.refused("P29 504 BLOCKS", w::encode);
        w.setting(0, 1);
        w.setting(1, 1);
        w.open();
        Check.refused("P29 504 BLOCKS behind OPEN", w::encode);
    }

    /** Many SLICES by ARITH: the END of each is told whatever LOW is then. */
    private static void manySlices() {
        for (int seed = 0; seed < 12; seed++) {
            VideoSuite v = open(0, 8, 1, 4, 2, 1, 3, 20 + seed, 4, 24, 8, 1, 9, seed * 313, 11, 1 + seed % 2);
            v.paint(1, 3, 5, seed);
            for (int i = 0; i < 6; i++) {
                v.paint(2, 40, 20, seed + i);
                v.encode();
            }
            int n = v.take();
            Check.due("P32 UNITS", n, 2 + 6 * (seed % 2 == 0 ? 32 : 16));
            v.decode(400);
            Check.due("P24 FAULTS of seed " + seed, v.count(4), 0);
            Check.due("P12 OUTPUTS", v.flush(), 6);
            for (int k = 0; k < 6; k++) {
                Check.due("P13 none REPAIRED", v.picture(k, 6), 0);
                Check.due("P33 filtered luma of " + k, v.sum(k, 0), v.coded(k, 5));
            }
        }
    }

    /** how 2: a & 255 of 1 leaves all as it is, of 0 is 256. */
    private static void noiseOfOne() {
        VideoSuite v = open(0, 1, 1, 1, 17, 1);
        int was = v.paint(1, 7, 9, 3);
        Check.due("P28 of 1", v.paint(2, 1, 0, 5), was);
        Check.due("P28 of 257", v.paint(2, 257, 0, 5), was);
        Check.due("P28 of 1, less 0 but 300: 255", v.paint(2, 1, -300, 5), open(0, 1, 1, 1).paint(0, 255, 0, 0));
        Check.due("P28 of 1, less 300: 0", v.paint(2, 1, 300, 5), 0);
        // 255 stays, 256 is 0
        VideoSuite w = open(0, 1, 1, 1, 17, 1);
        Check.due("P28 the square's 255", w.paint(4, 0, 0, 511), square(255));
        Check.due("P28 the square's 0", w.paint(4, 0, 0, 256), square(0));
        Check.due("P28 the square's 1", w.paint(4, 128, 256, 257), square(1));
    }

    private static int square(int c) {
        int h = 0;
        for (int i = 0; i < 256; i++) {
            h = 31 * h + (i % 16 < 8 && i < 128 ? c : 128);
        }
        return h;
    }

    /** A 3 is put in before 0 to 3 alone, behind two 0. */
    private static void emulation() {
        for (int c = 0; c < 6; c++) {
            VideoSuite v = open(0, 1, 1, 1, 17, 1);
            v.paint(0, 100, 100, 100);
            v.paint(4, 2, 4, 0);
            v.paint(4, 4, 4, c);
            v.paint(4, 5, 4, 100);
            v.encode();
            v.take();
            // eight rows of 0 0 c; where c is 0, too, three 0
            Check.due("P29 bytes put in before " + c, v.unit(2, 2) - v.unit(2, 3), c < 4 ? 8 : 0);
            int n = v.unit(2, 2);
            int at = 0;
            int zeros = 0;
            for (int i = 0; i < n; i++) {
                int b = v.unitByte(2, i);
                at += zeros > 1 && b == (c < 4 ? 3 : c) ? 1 : 0;
                zeros = b == 0 ? zeros + 1 : 0;
            }
            Check.due("P29 behind two 0 stands it", at, 8);
        }
    }

    /** All bytes of a SLICE by both codings, up to STOP; REF 1 and 0. */
    private static void slicesToTheByte() {
        for (int coding = 0; coding < 2; coding++) {
            VideoSuite v = open(0, 1, 1, 1, 2, coding, 6, 1, 7, 2);
            v.encode();
            v.encode();
            v.encode();
            v.take();
            Streams s = new Streams().size(1, 1);
            s.frameBits = 8;
            s.lowBits = 8;
            s.coding = coding;
            s.refs = 2;
            s.n0 = 2;
            s.step = 28;
            same("SEQUENCE", v, 0, s.sequence(0));
            same("PARAMETERS", v, 1, s.parameters(0, 0));
            Data d = s.head(5, 2).data().type(3).colours(0).more(0).token("1");
            same("I by " + coding, v, 2, d.unit());
            Streams.Head p = s.head(1, 0).at(1, 4).n(1);
            p.more = 2;
            same("P by " + coding, v, 3, p.data().skipped(1).unit());
            Streams.Head b = s.head(1, 1).at(2, 2).ref(0);
            b.more = 4;
            same("B by " + coding, v, 4, b.data().skipped(1).unit());
        }
    }

    private static void same(String what, VideoSuite v, int k, byte[] due) {
        Check.due("P5 bytes of " + what, v.unit(k, 2), due.length);
        for (int i = 0; i < due.length; i++) {
            int at = i;
            Check.answers("P6 byte " + i + " of " + what, due[i] & 255, () -> v.unitByte(k, at));
        }
    }

    /** An OWN picture of 2 by 2: which modes may be is told by what is THERE. */
    private static void drawnFourBlocks() {
        int[] ways = new int[4];
        for (int seed = 0; seed < 80; seed++) {
            VideoSuite v = open(0, 2, 1, 2, 8, 1, 9, seed, 2, seed % 2, 3, 20);
            v.paint(2, 0, 128, seed);
            v.encode();
            decoded(v);
            chance = seed;
            for (int mb = 0; mb < 4; mb++) {
                String what = "P29 BLOCK " + mb + " by seed " + seed;
                boolean left = mb % 2 == 1;
                boolean above = mb > 1;
                int t = draw(16);
                if (t == 0 && draw(8) == 0) {
                    Check.due(what + ": RAW", v.block(mb, 0), 2);
                    continue;
                }
                boolean isSixteen = t < 8;
                Check.due(what + ": kind", v.block(mb, 0), isSixteen ? 1 : 0);
                if (isSixteen) {
                    String may = (above ? "0" : "") + (left ? "1" : "") + "2" + (mb == 3 ? "3" : "");
                    Check.due(what + ": mode", v.block(mb, 8), may.charAt(draw(may.length())) - '0');
                }
                for (int b = 0; b < 16 && !isSixteen; b++) {
                    boolean l = left || b % 2 == 1 || b / 4 % 2 == 1;
                    boolean a = above || b / 2 % 2 == 1 || b >= 8;
                    boolean isFirst = b == 0 && mb != 3;
                    String may = (a ? "0" : "") + (l ? "1" : "") + "2" + (a ? "3" : "")
                            + (a && l && !isFirst ? "456" : "") + (a ? "7" : "") + (l ? "8" : "");
                    Check.due(what + ": mode of " + b, v.block(mb, 8 + b), may.charAt(draw(may.length())) - '0');
                }
                String may = "0" + (left ? "1" : "") + (above ? "2" : "") + (mb == 3 ? "3" : "");
                int colours = may.charAt(draw(may.length())) - '0';
                Check.due(what + ": colours' mode", v.block(mb, 5), colours);
                ways[colours]++;
                int step = drawStep(20);
                if (isSixteen || v.block(mb, 3) + v.block(mb, 4) > 0) {
                    Check.due(what + ": its STEP", v.block(mb, 2), step);
                }
            }
            Check.due("P41 CHANCE behind seed " + seed, v.count(13), chance);
        }
        for (int w : ways) {
            Check.due("each colours' mode was drawn", w > 4 ? 1 : 0, 1);
        }
    }
}
