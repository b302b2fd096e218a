import java.io.IOException;
import java.lang.reflect.Constructor;
import java.lang.reflect.Member;
import java.lang.reflect.Method;
import java.lang.reflect.Modifier;
import java.nio.file.Files;
import java.nio.file.Paths;
import java.util.ArrayList;
import java.util.List;
import java.util.TreeSet;

/** The public face is the document's and no other, and the file keeps to the plainest rules of LANGUAGE.md. */
public final class FaceTest {
    public static void main(String[] args) throws IOException {
        face();
        members();
        source();
        Check.end();
    }

    private static void face() throws IOException {
        TreeSet<String> due = new TreeSet<>();
        boolean isIn = false;
        for (String line : Files.readAllLines(Paths.get("../shared/DOC.md"))) {
            isIn = isIn && !line.startsWith("```") || line.startsWith("public final class VideoSuite");
            if (isIn && line.startsWith("    public ")) {
                due.add(line.trim().replaceAll(" [a-z](?=[,)])", "").replaceAll("(int) \\w+(?=[,)])", "$1"));
            }
        }
        Check.due("the document's face", due.size(), 41);
        TreeSet<String> got = new TreeSet<>();
        for (Method m : VideoSuite.class.getDeclaredMethods()) {
            if (Modifier.isPublic(m.getModifiers())) {
                got.add("public " + m.getReturnType().getSimpleName() + " " + m.getName() + types(m.getParameterTypes())
                        + thrown(m.getExceptionTypes()) + ";");
            }
        }
        for (Constructor<?> c : VideoSuite.class.getConstructors()) {
            got.add("public VideoSuite" + types(c.getParameterTypes()) + thrown(c.getExceptionTypes()) + ";");
        }
        for (String d : due) {
            Check.due("missing: " + d, got.contains(d) ? 1 : 0, 1);
        }
        Check.due("no other", got.size(), due.size());
    }

    private static String types(Class<?>[] classes) {
        List<String> names = new ArrayList<>();
        for (Class<?> c : classes) {
            names.add(c.getSimpleName());
        }
        return "(" + String.join(", ", names) + ")";
    }

    private static String thrown(Class<?>[] classes) {
        String names = types(classes);
        return classes.length == 0 ? "" : " throws " + names.substring(1, names.length() - 1);
    }

    private static void members() {
        TreeSet<String> open = new TreeSet<>();
        List<Member> all = new ArrayList<>(List.of(VideoSuite.class.getDeclaredMethods()));
        for (Method m : VideoSuite.class.getDeclaredMethods()) {
            if (Modifier.isPublic(m.getModifiers())) {
                open.add(m.getName());
            }
        }
        all.addAll(List.of(VideoSuite.class.getDeclaredFields()));
        for (Member m : all) {
            boolean isFace = m instanceof Method && Modifier.isPublic(m.getModifiers());
            Check.due("private: " + m, isFace || Modifier.isPrivate(m.getModifiers()) ? 1 : 0, 1);
            Check.due("a public one's name: " + m, m instanceof Method && !isFace && open.contains(m.getName()) ? 1 : 0,
                    0);
        }
        Check.due("final", Modifier.isFinal(VideoSuite.class.getModifiers()) ? 1 : 0, 1);
        for (Class<?> c : VideoSuite.class.getDeclaredClasses()) {
            Check.due("static and private: " + c, Modifier.isStatic(c.getModifiers())
                    && Modifier.isPrivate(c.getModifiers()) ? 1 : 0, 1);
            for (Method m : c.getDeclaredMethods()) {
                Check.due("a public one's name: " + m, open.contains(m.getName()) ? 1 : 0, 0);
            }
        }
    }

    private static void source() throws IOException {
        String text = Files.readString(Paths.get("src/main/java/VideoSuite.java"));
        String code = text.replaceAll("(?s)/\\*.*?\\*/", "").replaceAll("//[^\n]*", "");
        String[] not = {"->", "::", "finally", "synchronized", "assert ", "getMessage", "float", "double", "Random",
            "System.out", "currentTimeMillis", "nanoTime", "Exact(", "catch (RuntimeException", "catch (Exception",
            "catch (Throwable", "ArrayIndexOutOfBounds", "NullPointer", "catch (IndexOutOf", "catch (Arithmetic"};
        for (String n : not) {
            Check.due("the program holds " + n, code.contains(n) ? 1 : 0, 0);
        }
        int imports = code.split("import ").length - 1;
        Check.due("imports", imports, 2);
    }
}
