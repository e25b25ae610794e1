import java.lang.reflect.Field;
import java.lang.reflect.Method;
import java.lang.reflect.Modifier;
import java.nio.file.Files;
import java.nio.file.Path;
import java.util.ArrayList;
import java.util.List;
import java.util.TreeSet;
import java.util.regex.Matcher;
import java.util.regex.Pattern;

/** The face is the document's, and the source keeps to what of LANGUAGE.md can be looked up. */
public final class RulesTest {
    private static final Due DUE = new Due("RulesTest");
    private static final Path SOURCE = Path.of("src/main/java/LongBoats.java");
    private static final Path DOC = Path.of("../shared/DOC.md");

    public static void main(String[] args) throws Exception {
        String source = Files.readString(SOURCE);
        face(source);
        words(bare(source));
        classes();
        lengths(source);
        DUE.close();
    }

    private static void face(String source) throws Exception {
        String doc = Files.readString(DOC);
        int start = doc.indexOf("```java");
        String block = doc.substring(start, doc.indexOf("```", start + 7));
        TreeSet<String> wanted = new TreeSet<>();
        for (String line : block.split("\n")) {
            String l = line.trim();
            if (l.startsWith("public ") && l.endsWith(";") && l.contains("(")) {
                wanted.add(l.substring(0, l.length() - 1));
                DUE.due("the face has " + l, source.contains(l.substring(0, l.length() - 1) + " {") ? 1 : 0, 1);
            }
        }
        TreeSet<String> found = new TreeSet<>();
        Matcher m = Pattern.compile("(?m)^    (public [^=;{]*\\)) \\{").matcher(source);
        while (m.find()) {
            found.add(m.group(1));
        }
        DUE.dueText("the face", found.toString(), wanted.toString());
        DUE.due("public words", source.split("\\bpublic\\b").length - 1, wanted.size() + 2);
        DUE.due("public and final", LongBoats.class.getModifiers() & (Modifier.PUBLIC | Modifier.FINAL),
                Modifier.PUBLIC | Modifier.FINAL);
        for (Method x : LongBoats.class.getDeclaredMethods()) {
            boolean open = Modifier.isPublic(x.getModifiers()) || Modifier.isPrivate(x.getModifiers());
            DUE.due("neither public nor private: " + x.getName(), open ? 0 : 1, 0);
        }
    }

    /** The source without comments and texts. */
    private static String bare(String source) {
        return source.replaceAll("(?s)/\\*.*?\\*/", "").replaceAll("//[^\n]*", "")
                .replaceAll("\"[^\"\n]*\"", "\"\"");
    }

    private static void words(String bare) {
        String[] banned = {"\\bthrow\\b", "\\btry\\b", "\\bcatch\\b", "\\bsynchronized\\b", "\\bassert\\b",
            "\\bimport\\b", "\\bpackage\\b", "\\bprotected\\b", "->", "::", "\\bstatic\\s*\\{", "\\bvar\\b",
            "\\bSystem\\.(?!arraycopy)", "\\bThread\\b", "\\bdouble\\b", "\\bfloat\\b", "Exact\\(",
            "\\bhashCode\\b", "\\btoString\\b", "\\bwhile \\(true\\)", "for \\(;;", "\\binstanceof\\b",
            "[^ -~\\n]"};
        for (String word : banned) {
            Matcher m = Pattern.compile(word).matcher(bare);
            DUE.due("found " + word, m.find() ? 1 : 0, 0);
        }
    }

    private static void classes() {
        List<Class<?>> all = new ArrayList<>(List.of(LongBoats.class.getDeclaredClasses()));
        TreeSet<String> open = new TreeSet<>();
        for (Method m : LongBoats.class.getDeclaredMethods()) {
            if (Modifier.isPublic(m.getModifiers())) {
                open.add(m.getName());
            }
        }
        DUE.due("classes above 12", all.size() + 1 > 12 ? all.size() + 1 : 0, 0);
        all.add(LongBoats.class);
        for (Class<?> c : all) {
            int fields = 0;
            for (Field f : c.getDeclaredFields()) {
                boolean constant = Modifier.isStatic(f.getModifiers());
                DUE.due("static but not final: " + f, constant && !Modifier.isFinal(f.getModifiers()) ? 1 : 0, 0);
                fields += constant ? 0 : 1;
            }
            DUE.due("fields of " + c + " above 20", fields > 20 ? fields : 0, 0);
            DUE.due("not static: " + c, c == LongBoats.class || Modifier.isStatic(c.getModifiers()) ? 0 : 1, 0);
            for (Method m : c.getDeclaredMethods()) {
                DUE.due("parameters of " + m + " above 7", m.getParameterCount() > 7 ? 1 : 0, 0);
                boolean faceMethod = c == LongBoats.class && Modifier.isPublic(m.getModifiers());
                DUE.due("bears a public name: " + m, !faceMethod && open.contains(m.getName()) ? 1 : 0, 0);
            }
        }
    }

    private static void lengths(String source) {
        int start = 0;
        String[] lines = source.split("\n");
        for (int i = 0; i < lines.length; i++) {
            if (lines[i].matches("    (    )?\\S.*\\) \\{")) {
                start = i;
            }
            if (lines[i].matches("    (    )?\\}")) {
                DUE.due("lines of the method at " + (start + 1), i - start > 60 ? i - start : 0, 0);
            }
            DUE.due("width of line " + (i + 1), lines[i].length() > 110 ? lines[i].length() : 0, 0);
        }
    }
}
