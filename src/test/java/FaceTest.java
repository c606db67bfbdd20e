import java.lang.reflect.Constructor;
import java.lang.reflect.Field;
import java.lang.reflect.Method;
import java.lang.reflect.Modifier;
import java.nio.charset.StandardCharsets;
import java.nio.file.Files;
import java.nio.file.Path;
import java.util.ArrayList;
import java.util.HashMap;
import java.util.HashSet;
import java.util.List;
import java.util.Map;
import java.util.Set;
import java.util.TreeSet;
import java.util.regex.Matcher;
import java.util.regex.Pattern;

/** The document's face, to the letter, and of LANGUAGE.md the rules that can be seen from outside. */
public final class FaceTest {
    private static final Checks CHECKS = new Checks();
    private static final Path SOURCE = Path.of("src/main/java/RingsOff.java");
    private static final Path DOCUMENT = Path.of("../shared/DOC.md");

    public static void main(String[] args) throws Exception {
        Set<String> face = faceOfTheDocument();
        classes(face);
        members();
        words();
        sizes();
        depths();
        CHECKS.end("FaceTest");
    }

    private static Set<String> faceOfTheDocument() throws Exception {
        Set<String> face = new TreeSet<>();
        Matcher m = Pattern.compile("(?m)^    public (int|long) (\\w+)\\(([^)]*)\\);")
                .matcher(Files.readString(DOCUMENT));
        while (m.find()) {
            face.add(m.group(1) + " " + m.group(2) + m.group(3).replaceAll("(int|long) \\w+(, )?", "$1,"));
        }
        CHECKS.due("methods in the document", face.size(), 52);
        return face;
    }

    private static void classes(Set<String> face) throws Exception {
        CHECKS.part("the face");
        Class<?> c = RingsOff.class;
        CHECKS.holds("public and final", c.getModifiers() == (Modifier.PUBLIC | Modifier.FINAL));
        Set<String> seen = new TreeSet<>();
        for (Method method : c.getDeclaredMethods()) {
            if (!Modifier.isPrivate(method.getModifiers())) {
                CHECKS.holds(method + " is public alone", method.getModifiers() == Modifier.PUBLIC);
                StringBuilder row = new StringBuilder(method.getReturnType() + " " + method.getName());
                for (Class<?> type : method.getParameterTypes()) {
                    row.append(type).append(',');
                }
                seen.add(row.toString());
            }
        }
        CHECKS.holds("methods " + seen + " for " + face, seen.equals(face));
        Constructor<?>[] made = c.getDeclaredConstructors();
        CHECKS.holds("one constructor", made.length == 1 && made[0].getParameterCount() == 0
                && made[0].getModifiers() == Modifier.PUBLIC);
        for (Field field : c.getDeclaredFields()) {
            boolean none = field.getName().equals("NONE");
            CHECKS.holds(field + " is private, or NONE", Modifier.isPrivate(field.getModifiers()) != none);
        }
        CHECKS.holds("NONE is a constant", c.getField("NONE").getModifiers()
                == (Modifier.PUBLIC | Modifier.STATIC | Modifier.FINAL));
    }

    private static void members() {
        CHECKS.part("members");
        Set<String> open = new HashSet<>();
        for (Method method : RingsOff.class.getDeclaredMethods()) {
            if (Modifier.isPublic(method.getModifiers())) {
                open.add(method.getName());
            }
        }
        List<Class<?>> all = new ArrayList<>(List.of(RingsOff.class.getDeclaredClasses()));
        CHECKS.holds("at most twelve classes", all.size() < 12);
        for (Class<?> inside : all) {
            int is = inside.getModifiers();
            CHECKS.holds(inside + " is static and not open", Modifier.isStatic(is) && Modifier.isPrivate(is));
        }
        all.add(RingsOff.class);
        for (Class<?> c : all) {
            int fields = 0;
            for (Field field : c.getDeclaredFields()) {
                boolean isStatic = Modifier.isStatic(field.getModifiers());
                fields += isStatic ? 0 : 1;
                CHECKS.holds(field + " is final if static", !isStatic || Modifier.isFinal(field.getModifiers()));
            }
            CHECKS.holds(c + " has at most twenty fields", fields <= 20);
            for (Method method : c.getDeclaredMethods()) {
                CHECKS.holds(method + " takes at most seven", method.getParameterCount() <= 7);
                CHECKS.holds(method + " bears no public name", Modifier.isPublic(method.getModifiers())
                        || !open.contains(method.getName()));
            }
        }
    }

    private static String withoutComments() throws Exception {
        String source = Files.readString(SOURCE, StandardCharsets.ISO_8859_1);
        return source.replaceAll("(?s)/\\*.*?\\*/", "").replaceAll("//[^\n]*", "")
                .replaceAll("\"[^\"\n]*\"", "TEXT").replaceAll("'[^'\n]*'", "SIGN");
    }

    private static void words() throws Exception {
        CHECKS.part("words");
        String code = withoutComments();
        String[] never = {"\\b(throw|throws|try|catch|finally|synchronized|assert|package|instanceof)\\b",
            "->", "::", "\\b(System\\.(?!arraycopy)|Thread|Random|Exception|Object|hashCode|NaN)\\b", "Exact\\b",
            "TEXT *\\+|\\+ *TEXT", "\\bnull\\b"};
        for (String pattern : never) {
            CHECKS.holds("never " + pattern, !Pattern.compile(pattern).matcher(code).find());
        }
        Matcher imports = Pattern.compile("import ([^;]*);").matcher(code);
        while (imports.find()) {
            CHECKS.holds("import of " + imports.group(1), imports.group(1).equals("java.util.Arrays"));
        }
        // objects stand in fields that the constructor fills: a call makes none
        Matcher made = Pattern.compile("(?m)^(.*)\\bnew\\b").matcher(code);
        while (made.find()) {
            CHECKS.holds("made in a field: " + made.group(), made.group(1).contains("private")
                    && made.group(1).contains("="));
        }
    }

    /** How deep calls go, read from the source; a name that stands twice would count for both, so none does. */
    private static void depths() throws Exception {
        CHECKS.part("depths");
        Map<String, Set<String>> calls = new HashMap<>();
        Matcher m = Pattern.compile("(?ms)^ {4,8}(?:public|private)(?: static)? [\\w\\[\\]]+ (\\w+)\\([^)]*\\) \\{(.*?)^ {4,8}\\}$")
                .matcher(withoutComments());
        while (m.find()) {
            Set<String> called = new HashSet<>();
            Matcher call = Pattern.compile("\\b(\\w+)\\(").matcher(m.group(2));
            while (call.find()) {
                called.add(call.group(1));
            }
            CHECKS.holds(m.group(1) + " stands once", calls.put(m.group(1), called) == null);
        }
        CHECKS.holds("all methods are seen", calls.size() > 120);
        for (String name : calls.keySet()) {
            int depth = depth(name, calls, 0);
            CHECKS.holds(name + " goes " + depth + " deep", depth <= 7);
        }
    }

    private static int depth(String name, Map<String, Set<String>> calls, int above) {
        int most = 0;
        for (String called : calls.get(name)) {
            if (calls.containsKey(called) && !called.equals(name) && above < 30) {
                most = Math.max(most, depth(called, calls, above + 1));
            }
        }
        return most + 1;
    }

    private static void sizes() throws Exception {
        CHECKS.part("sizes");
        int from = 0;
        String name = "";
        int number = 0;
        for (String line : Files.readAllLines(SOURCE)) {
            number++;
            if (line.matches(" {4,8}(public|private) [^=;]*\\{") && !line.contains(" class ")) {
                from = number;
                name = line.trim();
            }
            if (line.matches(" {4,8}}") && from > 0) {
                CHECKS.holds(name + " has " + (number - from) + " lines", number - from <= 60);
                from = 0;
            }
            CHECKS.holds("line " + number + " is short", line.length() <= 120);
        }
    }
}
