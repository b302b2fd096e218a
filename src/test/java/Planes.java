import java.util.function.Supplier;

/** The samples of OUTPUTS; an object answers 512 calls alone, so it is made again and again. */
final class Planes {
    private static final int CALLS = 200;

    private Planes() {
    }

    /** All planes of OUTPUT k, of wide by high samples, of an object that makes few calls up to there. */
    static int[][] of(Supplier<VideoSuite> make, int k, int wide, int high) {
        int[][] planes = new int[3][];
        VideoSuite v = null;
        int calls = CALLS;
        for (int p = 0; p < 3; p++) {
            int w = p == 0 ? wide : wide / 2;
            int h = p == 0 ? high : high / 2;
            planes[p] = new int[w * h];
            for (int i = 0; i < w * h; i++) {
                if (calls == CALLS) {
                    v = make.get();
                    calls = 0;
                }
                planes[p][i] = v.sample(k, p, i % w, i / w);
                calls++;
            }
        }
        return planes;
    }
}
