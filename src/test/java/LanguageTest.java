import java.io.IOException;
import java.lang.reflect.Constructor;
import java.lang.reflect.Field;
import java.lang.reflect.Method;
import java.lang.reflect.Modifier;
import java.nio.file.Files;
import java.nio.file.Path;
import java.util.ArrayList;
import java.util.List;
import java.util.TreeSet;

/** The public face, and those rules of LANGUAGE.md that a look at the source can tell. */
public final class LanguageTest {
    private static final String SOURCE = "src/main/java/SightLegend.java";
    private static final String I = "IndexOutOfBoundsException";
    private static final String A = "IllegalArgumentException";
    private static final String S = "IllegalStateException";
    private static final String[] FACE = {
        "int addSign(5) " + I + " " + A + " " + S, "int removeSign(1) " + I, "int moveSign(3) " + I + " " + A,
        "int setWindow(5) " + A, "int set(2) " + A, "int setKind(3) " + I + " " + A,
        "int setWay(2) " + I + " " + A, "int limit(2) " + I + " " + A + " " + S, "int value(1) " + A,
        "int sign(2) " + I + " " + A, "int kind(2) " + I + " " + A, "int lines(0)", "int line(2) " + I + " " + A,
        "int box(1) " + A, "int rounds(1) " + A, "int firstLines(0)", "double explained(0)",
        "int linesAt(2) " + A, "int bestColumns(0)", "int zoomFor(1) " + I, "int linesSaved(1) " + I,
        "int append(1) " + A + " " + S, "int clearText(0)", "int parse(0)", "int undo(0) " + S, "long digest(0)",
    };
    private static final String[] BANNED = {
        "import ", "package ", "->", "::", "try ", "catch", "finally", "synchronized", "assert ", "Exact(",
        "java.", "instanceof", "record ", "\" +", "+ \"", "hashCode", "equals(", "toString", "var ", "while (true)",
    };
    private static final int LONGEST_METHOD = 60;

    private static String told(Method m) {
        StringBuilder told = new StringBuilder();
        told.append(m.getReturnType()).append(' ').append(m.getName());
        told.append('(').append(m.getParameterCount()).append(')');
        for (Class<?> e : m.getExceptionTypes()) {
            told.append(' ').append(e.getSimpleName());
        }
        return told.toString();
    }

    private static void face() {
        TreeSet<String> open = new TreeSet<>();
        TreeSet<String> openNames = new TreeSet<>();
        List<Method> hidden = new ArrayList<>();
        for (Method m : SightLegend.class.getDeclaredMethods()) {
            if (Modifier.isPrivate(m.getModifiers()) || m.isSynthetic()) {
                hidden.add(m);
            } else {
                open.add((Modifier.isPublic(m.getModifiers()) ? "" : "not public: ") + told(m));
                openNames.add(m.getName());
            }
        }
        Checks.equal("the face is that of the document", 1, open.equals(new TreeSet<>(List.of(FACE))) ? 1 : 0);
        for (Class<?> inside : SightLegend.class.getDeclaredClasses()) {
            hidden.addAll(List.of(inside.getDeclaredMethods()));
            Checks.equal(inside + " is static", 1, Modifier.isStatic(inside.getModifiers()) ? 1 : 0);
        }
        for (Method m : hidden) {
            Checks.equal(m + " has a name of the face", 0, openNames.contains(m.getName()) ? 1 : 0);
            Checks.equal(m + " has too many parameters", 0, m.getParameterCount() > 7 ? 1 : 0);
        }
        for (Field f : SightLegend.class.getDeclaredFields()) {
            boolean constant = f.getName().equals("NONE");
            Checks.equal(f + " is open", constant ? 1 : 0, Modifier.isPrivate(f.getModifiers()) ? 0 : 1);
            boolean isFinal = Modifier.isFinal(f.getModifiers());
            Checks.equal(f + " is static, not final", 0, Modifier.isStatic(f.getModifiers()) && !isFinal ? 1 : 0);
        }
        for (Constructor<?> c : SightLegend.class.getDeclaredConstructors()) {
            Checks.equal("the constructor has no parameters", 0, c.getParameterCount());
        }
        Checks.equal("the class is final", 1, Modifier.isFinal(SightLegend.class.getModifiers()) ? 1 : 0);
    }

    private static void source() throws IOException {
        List<String> lines = Files.readAllLines(Path.of(SOURCE));
        for (int i = 0; i < lines.size(); i++) {
            String line = lines.get(i).strip();
            boolean comment = line.startsWith("*") || line.startsWith("/");
            for (String word : BANNED) {
                Checks.equal(word + " in line " + (i + 1), 0, !comment && line.contains(word) ? 1 : 0);
            }
        }
        lengths(lines);
    }

    /** Methods stand four spaces deep, those of the classes inside eight. */
    private static void lengths(List<String> lines) {
        int methods = 0;
        int depth = 4;
        int start = 0;
        for (int i = 0; i < lines.size(); i++) {
            String line = lines.get(i);
            int indent = line.length() - line.stripLeading().length();
            if (indent == 4 && line.contains(" class ")) {
                depth = 8;
            } else if (depth == 8 && line.equals("    }")) {
                depth = 4;
            } else if (indent == depth && line.contains("(")) {
                start = i;
            } else if (indent == depth && line.endsWith("}")) {
                methods++;
                Checks.equal("a method too long, line " + (start + 1), 0, i - start >= LONGEST_METHOD ? 1 : 0);
            }
        }
        Checks.equal("methods are found", 1, methods > 50 ? 1 : 0);
    }

    public static void main(String[] args) throws IOException {
        face();
        source();
        Checks.end();
    }
}
