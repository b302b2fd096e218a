import java.io.IOException;
import java.nio.file.Files;
import java.nio.file.Paths;
import java.util.ArrayList;
import java.util.List;
import java.util.NoSuchElementException;

/** What README.md shows of the class's use: it stands there word by word, and answers as README says. */
public final class UseTest {
    public static void main(String[] args) throws IOException {
        byte[] stream = bytesMade();
        decoding(stream);
        faults(stream);
        files(stream);
        measures(stream);
        exceptions(stream);
        standsInReadme();
        Check.end();
    }

    // shown
    static void feedAll(VideoSuite v, byte[] d) {
        int had = v.count(0);
        for (int i = 0; i < d.length; i += 20) {
            int[] w = new int[5];
            for (int j = 0; j < 20; j++) {
                w[j / 4] = w[j / 4] << 8 | (i + j < d.length ? d[i + j] & 255 : 0);
            }
            v.feed(w[0], w[1], w[2], w[3], w[4]);
        }
        v.end(had + d.length);           // the last call's bytes that were too many go
    }
    // so far

    private static void decoding(byte[] stream) {
        // shown
        VideoSuite v = new VideoSuite();
        feedAll(v, stream);
        int units = v.split(0);          // 0: behind 0 0 1; 1 .. 4: by lengths of so many bytes
        v.repair(1);                     // missing BLOCKS from the PICTURE before
        while (v.decode(1) > 0) {
            int sort = v.count(7) > 0 ? v.slice(1) : -1;
        }
        int outputs = v.flush();         // ends the last PICTURE; all that wait are put out
        int width = v.picture(0, 0);
        int height = v.picture(0, 1);
        int corner = v.sample(0, 0, width - 1, height - 1);
        // so far
        Check.due("UNITS", units, 6);
        Check.due("OUTPUTS", outputs, 4);
        Check.due("width", width, 48);
        Check.due("height", height, 32);
        Check.due("a sample is one", corner >= 0 && corner < 256 ? 1 : 0, 1);
        Check.due("no FAULTS", v.count(4), 0);
        Check.due("trusted", v.picture(3, 5), 1);
        Check.due("anew", v.anew(), 6);
        Check.due("none is decoded", v.count(2), 0);
    }

    private static void faults(byte[] stream) {
        VideoSuite v = new VideoSuite();
        feedAll(v, stream);
        v.split(0);
        // shown
        v.flip(2, 8);                    // UNIT 2 is broken: its first SLICE begins elsewhere
        v.decode(400);                   // throws nothing
        v.flush();
        for (int i = 0; i < v.count(4) && i < 200; i++) {
            int unit = v.fault(i, 0);
            int place = v.fault(i, 1);
            int kind = v.fault(i, 2);    // 1 END, 2 OUT, 3 no SET, 4 not as it must be
        }
        // so far
        Check.due("FAULTS", v.count(4) > 0 ? 1 : 0, 1);
        Check.due("in UNIT 2", v.fault(0, 0), 2);
    }

    private static VideoSuite coding() {
        // shown
        VideoSuite v = new VideoSuite();
        v.setting(0, 3);                 // WIDTH: 3 BLOCKS, 48 samples
        v.setting(6, 1);                 // MANY: one B between two ANCHORS,
        v.setting(7, 2);                 // for which REFS must be 2 at least
        int clash = v.open();            // -1; else the SETTING that clashes, and nothing is done
        for (int i = 0; i < 4; i++) {
            v.paint(1, 3, 2, 40 + 5 * i);
            v.encode();
        }
        v.finish();                      // those that wait still
        int bytes = v.count(9);          // made(0) .. made(bytes - 1) tell them
        v.take();                        // they are the STREAM now
        v.decode(400);
        v.flush();
        boolean isSame = v.sum(0, 0) == v.coded(0, 5);
        // so far
        Check.due("open", clash, -1);
        Check.due("bytes MADE", bytes > 0 ? 1 : 0, 1);
        Check.due("all are coded", v.count(10), 4);
        Check.due("none waits", v.count(11), 0);
        Check.due("the second one coded is P", v.coded(1, 2), 0);
        Check.due("the third one coded is B", v.coded(2, 2), 1);
        Check.due("UNITS", v.count(1), 6);
        Check.due("OUTPUTS", v.count(3), 4);
        Check.due("what is decoded is what was coded", isSame ? 1 : 0, 1);
        return v;
    }

    /** The bytes MADE; an object answers 512 calls, so that each tells a part of them. */
    private static byte[] bytesMade() {
        byte[] made = new byte[coding().count(9)];
        VideoSuite v = null;
        for (int i = 0; i < made.length; i++) {
            v = i % 400 == 0 ? coding() : v;
            made[i] = (byte) v.made(i);
        }
        return made;
    }

    private static void files(byte[] stream) {
        VideoSuite v = new VideoSuite();
        feedAll(v, stream);
        // shown
        v.split(0);
        int length = v.mux();            // the STREAM as a file is the TAPE now
        int units = v.demux();           // and back: the TAPE's file is the STREAM, the TAPE is empty
        int letters = v.box(0, 0);       // 'f' << 24 | 't' << 16 | 'y' << 8 | 'p'
        // so far
        Check.due("UNITS of the file", units, 6);
        Check.due("ftyp", letters, 'f' << 24 | 't' << 16 | 'y' << 8 | 'p');
        Check.due("the TAPE is empty", v.count(0), 0);
        Check.due("as long again", v.mux(), length);
        feedAll(v, stream);
        Check.refused("more than a file", v::demux);
        Check.due("no TAPE either", v.count(0), 0);
    }

    private static void measures(byte[] stream) {
        VideoSuite v = new VideoSuite();
        feedAll(v, stream);
        v.split(0);
        // shown
        v.decode(400);
        v.flush();
        long squares = v.quality(0, 1, 0, 0, 0);
        double index = (double) v.quality(0, 1, 1, 8, 4) / v.quality(0, 1, 2, 8, 4);
        int small = v.scale(0, 0, 6, 4, 5, 3);      // the last sample of luma scaled to 6 by 4
        int grey = v.histogram(0, 1, 128);
        int first = v.buffer(4000, 40000);          // the first SLICE that it can't take, or -1
        // so far
        Check.due("squares of others", squares > 0 ? 1 : 0, 1);
        Check.due("squares of the same", v.quality(2, 2, 0, 0, 0), 0);
        Check.due("the index is 1 at most", index <= 1 ? 1 : 0, 1);
        Check.due("the index of the same", v.quality(2, 2, 1, 8, 4), 1);
        Check.due("scaled", small >= 0 && small < 256 ? 1 : 0, 1);
        Check.due("how often", grey >= 0 && grey <= 24 * 16 ? 1 : 0, 1);
        Check.due("it takes all", first, -1);
        Check.due("it can't take the second SLICE", v.buffer(0, 8 * v.unit(2, 2)), 3);
    }

    private static void exceptions(byte[] stream) {
        VideoSuite v = new VideoSuite();
        Check.bad("a way that isn't", () -> v.split(5));
        Check.missing("nothing is decoded", () -> v.picture(0, 0));
        Check.refused("not OPEN yet", v::encode);
        feedAll(v, stream);
        // shown
        String answer;
        try {
            answer = "" + v.picture(7, 9);
        } catch (IllegalArgumentException e) {
            answer = "bad: picture tells 0 .. 6";
        } catch (NoSuchElementException e) {
            answer = "missing: no OUTPUT 7";
        }
        // so far
        Check.due("bad comes first", answer.startsWith("bad") ? 1 : 0, 1);
        Check.missing("missing without it", () -> v.picture(7, 6));
        Check.due("what throws changes nothing", v.count(0), stream.length);
    }

    /** Every line that is shown here stands in README, too, and README shows no other. */
    private static void standsInReadme() throws IOException {
        List<String> due = new ArrayList<>();
        boolean isShown = false;
        for (String line : Files.readAllLines(Paths.get("src/test/java/UseTest.java"))) {
            String text = line.trim();
            isShown = isShown && !text.equals("// so far");
            if (isShown) {
                due.add(text);
            }
            isShown = isShown || text.equals("// shown");
        }
        List<String> got = new ArrayList<>();
        boolean isCode = false;
        for (String line : Files.readAllLines(Paths.get("README.md"))) {
            if (line.startsWith("```")) {
                isCode = line.equals("```java");
            } else if (isCode) {
                got.add(line.trim());
            }
        }
        Check.due("lines of README's examples", got.size(), due.size());
        for (int i = 0; i < due.size() && i < got.size(); i++) {
            Check.due("README shows " + due.get(i), got.get(i).equals(due.get(i)) ? 1 : 0, 1);
        }
    }
}
