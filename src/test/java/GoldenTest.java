import java.io.IOException;
import java.nio.file.Files;
import java.nio.file.Paths;
import java.util.List;
import java.util.Random;

/**
 * Long runs of calls of all kinds, each folded into one number; src/test/data/golden.txt has those that were
 * answered by this program itself, as a guard against change. With an argument it prints them.
 */
public final class GoldenTest {
    private static final int RUNS = 160;
    private static final int FLIPPED = 8;
    private Random chance;
    private VideoSuite v;
    private long fold;
    private int calls;

    public static void main(String[] args) throws IOException {
        List<String> due = args.length > 0 ? null : Files.readAllLines(Paths.get("src/test/data/golden.txt"));
        for (int seed = 0; seed < RUNS + FLIPPED; seed++) {
            long got = seed < RUNS ? new GoldenTest().run(seed) : new GoldenTest().flips(seed - RUNS);
            if (due == null) {
                System.out.println(got);
            } else {
                Check.due("run " + seed, got, seed < due.size() ? Long.parseLong(due.get(seed)) : 0);
            }
        }
        Check.end();
    }

    private int draw(int from, int to) {
        return from + chance.nextInt(to - from + 1);
    }

    private long call(Check.Call c) {
        long told = Check.told(c);
        fold = 1000003 * fold + told;
        calls++;
        return told;
    }

    private long run(int seed) {
        chance = new Random(seed * 7919L);
        v = new VideoSuite();
        settings(seed);
        paintAndEncode();
        call(v::finish);
        for (int k = 0; k < v.count(10) && k < 8; k++) {
            for (int what = 0; what < 7; what++) {
                int i = k;
                int w = what;
                call(() -> v.coded(i, w));
            }
        }
        call(v::take);
        if (seed % 5 == 4) {
            call(v::mux);
            call(v::demux);
        }
        call(() -> v.repair(draw(0, 3)));
        if (seed % 2 == 1) {
            breakStream();
        }
        decode();
        return 1000003 * fold + calls;
    }

    /** A small stream, each bit of its last UNIT's first 160 turned once: the FAULTS and what is left. */
    private long flips(int which) {
        for (int bit = 8; bit < 168; bit++) {
            v = new VideoSuite();
            int[] set = {0, 2, 1, 1, 2, which % 2, 6, which / 2 % 2, 7, 2, 8, 1, 9, which * 31, 17, which == 7 ? 1 : 0};
            for (int i = 0; i < set.length; i += 2) {
                v.setting(set[i], set[i + 1]);
            }
            v.open();
            v.paint(2, 90, 45, which);
            for (int i = 0; i < 3 + which % 2; i++) {
                v.encode();
                v.paint(3, 1, 0, 0);
            }
            int last = v.take() - 1;
            int at = bit;
            v.repair(3);
            call(() -> v.flip(last, at));
            v.decode(400);
            call(v::flush);
            for (int i = 0; i < 3; i++) {
                int what = i;
                call(() -> v.fault(0, what));
                call(() -> v.sum(v.count(3) - 1, what));
            }
            call(() -> v.slice(16));
            call(() -> v.count(8));
            call(() -> v.count(14));
        }
        return 1000003 * fold + calls;
    }

    private void settings(int seed) {
        int many = draw(0, 2);
        int[] set = {0, draw(1, 3), 1, draw(1, 2), 2, seed / 2 % 2, 3, draw(16, 45), 4, draw(16, 45), 5, draw(16, 45),
            6, many, 7, draw(2, 3), 8, seed / 4 % 2, 9, chance.nextInt(), 10, draw(0, 3), 11, draw(0, 1) * draw(1, 4),
            12, draw(0, 1) * draw(1, 4), 13, draw(0, 2), 14, draw(-6, 6), 15, draw(-6, 6),
            16, draw(0, 4) == 0 ? draw(200, 3000) : 0, 17, draw(0, 15) == 0 ? 1 : 0, 18, many > 0 ? 0 : draw(0, 2),
            19, draw(0, 1), 20, draw(0, 1), 21, 2 * draw(0, 1), 22, draw(0, 1), 23, draw(-12, 12)};
        for (int i = 0; i < set.length; i += 2) {
            int what = set[i];
            int value = set[i + 1];
            call(() -> v.setting(what, value));
        }
        call(v::open);
    }

    private void paintAndEncode() {
        call(() -> v.paint(1, draw(-6, 6), draw(-6, 6), draw(0, 255)));
        boolean isFlat = draw(0, 2) == 0;
        if (isFlat) {
            call(() -> v.paint(0, draw(0, 255), draw(0, 255), draw(0, 255)));
        }
        for (int i = draw(3, 9); i > 0; i--) {
            if (isFlat || draw(0, 2) == 0) {
                call(() -> v.paint(4, draw(0, 40), draw(0, 24), draw(0, 255)));
            }
            call(() -> v.paint(3, draw(-2, 2), draw(-2, 2), 0));
            int noise = isFlat ? draw(1, 3) : draw(1, 40);
            call(() -> v.paint(2, noise, noise / 2, chance.nextInt()));
            call(v::encode);
        }
    }

    private void breakStream() {
        for (int i = draw(1, 4); i > 0; i--) {
            int k = draw(0, v.count(1) - 1);
            int bit = draw(0, Math.min(8 * v.unit(k, 2) - 1, draw(0, 2) == 0 ? 70 : 100000));
            call(() -> v.flip(k, bit));
        }
        if (draw(0, 3) == 0) {
            call(() -> v.lose(draw(2, v.count(1) - 1)));
        }
    }

    private void decode() {
        while (calls < 330 && call(() -> v.decode(draw(1, 2))) > 0) {
            for (int i = 0; i < 22; i++) {
                ask();
            }
        }
        call(() -> v.decode(400));
        call(v::flush);
        for (int k = 0; k < 7; k++) {
            for (int p = 0; p < 3; p++) {
                int i = k;
                int plane = p;
                call(() -> v.sum(i, plane));
            }
        }
        for (int what = 0; what < 15; what++) {
            int w = what;
            call(() -> v.count(w));
        }
        while (calls < 480) {
            ask();
        }
    }

    private void ask() {
        int mb = draw(0, 6);
        int b = draw(0, 15);
        int k = draw(0, 5);
        int bit = draw(0, 1);
        switch (draw(0, 16)) {
            case 0 -> call(() -> v.picture(k, draw(0, 6)));
            case 1 -> call(() -> v.sample(k, draw(0, 2), draw(0, 20), draw(0, 15)));
            case 2 -> call(() -> v.slice(draw(0, 17)));
            case 3, 4 -> call(() -> v.block(mb, draw(0, 23)));
            case 5, 6 -> call(() -> v.vector(mb, b, bit, draw(0, 2)));
            case 7, 8 -> call(() -> v.level(mb, draw(0, 26), draw(0, 15)));
            case 9, 10 -> call(() -> v.edge(mb, b, bit));
            case 11 -> call(() -> v.stored(k, draw(0, 6)));
            case 12 -> call(() -> v.entry(bit, draw(0, 2)));
            case 13 -> call(() -> v.fault(k, draw(0, 2)));
            case 14 -> call(() -> v.element(draw(0, 300), draw(0, 2)));
            case 15 -> call(() -> v.unit(k, draw(0, 5)));
            default -> call(() -> v.quality(k, draw(0, 3), draw(0, 2), 4 * draw(0, 3), 4 * draw(0, 3)));
        }
    }
}
