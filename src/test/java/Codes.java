import java.io.IOException;
import java.nio.file.Files;
import java.nio.file.Paths;
import java.util.ArrayList;
import java.util.List;

/** The tables of section 4, as the document tells them, and LEVELS by them. */
final class Codes {
    private static final String DOC = doc();

    private Codes() {
    }

    private static String doc() {
        try {
            return Files.readString(Paths.get("../shared/DOC.md"));
        } catch (IOException e) {
            throw new IllegalStateException(e);
        }
    }

    /** What the document tells between two texts. */
    static String between(String from, String to) {
        int at = DOC.indexOf(from) + from.length();
        return DOC.substring(at, DOC.indexOf(to, at));
    }

    static int[] numbers(String text) {
        String[] words = text.replaceAll("[^0-9]+", " ").trim().split(" ");
        int[] row = new int[words.length];
        for (int i = 0; i < row.length; i++) {
            row[i] = Integer.parseInt(words[i]);
        }
        return row;
    }

    /** Codes that are told as length.value, as bits. */
    private static List<String> bits(String text) {
        int[] n = numbers(text);
        List<String> all = new ArrayList<>();
        for (int i = 0; i < n.length; i += 2) {
            all.add(new Bits().u(n[i], n[i + 1]).toText());
        }
        return all;
    }

    static String token(int table, int t, int o) {
        if (table == 3) {
            return new Bits().u(6, t == 0 ? 3 : 4 * t - 4 + o).toText();
        }
        int i = o;
        for (int k = 0; k < t; k++) {
            i += Math.min(k, 3) + 1;
        }
        return bits(between("\n  " + table + ": ", "\n")).get(i);
    }

    static String zeros(int n, int t, int z) {
        String rows = n == 4 ? between(" E, t 1 .. 3:", "RUN tables") : between("for z = 0, 1, .. :", "\n");
        return bits(rows.split(";")[t - 1]).get(z);
    }

    static String run(int left, int run) {
        return bits(between("zeros left 1 .. 7, for 0, 1, .. :", "\n").split(";")[Math.min(7, left) - 1]).get(run);
    }

    /** The sizes of LEVELS behind TOKEN: ONES, then prefixes and rests. */
    private static void sizes(Data d, int[] value, int t, int o) {
        int s = t > 10 && o < 3 ? 1 : 0;
        for (int i = 0; i < t; i++) {
            if (i < o) {
                d.bit(12, 0, value[i] < 0 ? 1 : 0);
                continue;
            }
            int v = value[i] > 0 ? 2 * value[i] - 2 : -2 * value[i] - 1;
            v -= i == o && o < 3 ? 2 : 0;
            for (int p = 0; p < 16; p++) {
                int n = p == 15 ? 12 : p == 14 && s == 0 ? 4 : s;
                int least = (p << s) + (p == 15 && s == 0 ? 15 : 0);
                if (v - least < 1 << n) {
                    d.ue0(13, p).u(14, n, v - least);
                    break;
                }
            }
            s = Math.max(s, 1);
            s += Math.abs(value[i]) > 3 << s - 1 && s < 6 ? 1 : 0;
        }
    }

    /** LEVELS of n by SCAN, TOKEN by a table, with as many ONES as there are. */
    static Data levels(Data d, int table, int n, int... level) {
        int[] value = new int[16];
        int[] before = new int[16];
        int t = 0;
        int z = 0;
        for (int i = level.length - 1; i >= 0; i--) {
            if (level[i] != 0) {
                value[t++] = level[i];
            } else if (t > 0) {
                before[t - 1]++;
                z++;
            }
        }
        int o = 0;
        while (o < 3 && o < t && Math.abs(value[o]) == 1) {
            o++;
        }
        d.token(token(table, t, o));
        sizes(d, value, t, o);
        if (t > 0 && t < n) {
            d.code(15, zeros(n, t, z));
        }
        for (int i = 0; i + 1 < t && z > 0; i++) {
            d.code(16, run(z, before[i]));
            z -= before[i];
        }
        return d;
    }

    /** So many LEVELS of 1, from the first place on. */
    static Data ones(Data d, int table, int n, int t) {
        int[] level = new int[t];
        java.util.Arrays.fill(level, 1);
        return levels(d, table, n, level);
    }
}
