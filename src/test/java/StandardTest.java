import java.io.IOException;
import java.nio.file.Files;
import java.nio.file.Paths;
import java.util.Base64;

/**
 * Streams by TABLES with all kinds of lists, moves, marks, weights and ORDERS, whose samples a decoder of the
 * standard tells as well: a line has the bytes, width, height, and of each OUTPUT its ORDER and sums.
 */
public final class StandardTest {
    public static void main(String[] args) throws IOException {
        int n = 0;
        for (String line : Files.readAllLines(Paths.get("src/test/data/standard.txt"))) {
            n++;
            stream("stream " + n, line.split(" "));
        }
        Check.due("streams", n, 10);
        Check.end();
    }

    private static void stream(String what, String[] words) {
        VideoSuite v = new VideoSuite();
        Streams.feed(v, Base64.getDecoder().decode(words[0]));
        v.split(0);
        v.decode(400);
        Check.due(what + " OUTPUTS", v.flush(), words.length - 3);
        Check.due(what + " FAULTS", v.count(4), 0);
        for (int k = 0; k < v.count(3); k++) {
            String[] due = words[3 + k].split(":");
            Check.due(what + " width", v.picture(k, 0), Integer.parseInt(words[1]));
            Check.due(what + " height", v.picture(k, 1), Integer.parseInt(words[2]));
            Check.due(what + " ORDER of " + k, v.picture(k, 2), Integer.parseInt(due[0]));
            for (int p = 0; p < 3; p++) {
                Check.due(what + " sum of " + k + ", plane " + p, v.sum(k, p), Integer.parseInt(due[1 + p]));
            }
        }
    }
}
