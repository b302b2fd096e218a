import java.util.Random;

/**
 * Section 3, ARITH: LOWER and DOWN. The signs of 1536 LEVELS, all of one state's, are chosen so that each state 0 .. 62
 * meets the bit that isn't likely; what is wrong by one anywhere makes the rest of the SLICE another one.
 */
public final class StatesTest {
    private static final int[] DOWN = Codes.numbers(Codes.between("DOWN:", "```"));
    private static final int BLOCKS = 32;
    private static final int SIGNS = 48 * BLOCKS;

    public static void main(String[] args) {
        for (int seed = 0; seed < 12; seed++) {
            slice(seed);
        }
        Check.end();
    }

    /** Climbs to each state, from below or from above, and leaves it by the other bit; then by chance. */
    private static int[] signs(int seed) {
        Random r = new Random(seed);
        int[] sign = new int[SIGNS];
        int state = 0;
        int likely = 0;
        int step = 0;
        for (int i = 0; i < SIGNS; i++) {
            int aim = seed % 2 == 0 ? step : 62 - step;
            boolean isOther = step < 63 ? state >= aim : r.nextInt(5 + 5 * (seed % 4)) == 0;
            step += isOther ? 1 : 0;
            sign[i] = isOther ? 1 - likely : likely;
            if (isOther) {
                likely = state == 0 ? 1 - likely : likely;
                state = DOWN[state];
            } else {
                state = Math.min(62, state + 1);
            }
        }
        Check.due("all states were left", step > 62 ? 1 : 0, 1);
        return sign;
    }

    private static void slice(int seed) {
        int[] sign = signs(seed);
        Streams s = new Streams().size(8, 4);
        s.coding = 1;
        Data d = s.sets().head(5, 2).data();
        for (int mb = 0; mb < BLOCKS; mb++) {
            d.type(0);
            for (int b = 0; b < 16; b++) {
                d.given();
            }
            d.colours(0).pattern(2).more(0);
            for (int b = 0; b < 16; b++) {
                int at = 48 * mb + 3 * b;
                // TOTAL is 3 all around, but for the very first piece
                Codes.levels(d, mb + b == 0 ? 0 : 1, 16, 1 - 2 * sign[at + 2], 1 - 2 * sign[at + 1], 1 - 2 * sign[at]);
            }
        }
        VideoSuite v = s.add(d.unit()).object();
        v.decode(400);
        Check.due("FAULTS of seed " + seed, v.count(4), 0);
        Check.due("BLOCKS of seed " + seed, v.slice(16), BLOCKS);
        for (int mb = 1; mb < BLOCKS; mb += 6) {
            for (int i = 0; i < 48; i++) {
                Check.due("seed " + seed + ", BLOCK " + mb + ", LEVEL " + i, v.level(mb, i / 3, 2 - i % 3),
                        1 - 2 * sign[48 * mb + i]);
            }
        }
    }
}
