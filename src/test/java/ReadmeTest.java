import java.io.IOException;
import java.lang.reflect.Method;
import java.lang.reflect.Modifier;
import java.nio.file.Files;
import java.nio.file.Path;
import java.util.ArrayList;
import java.util.List;

/** What README.md shows of the use of the class is what the class answers. */
public final class ReadmeTest {
    private static final List<String> told = new ArrayList<>();
    private static int at = 0;

    /** The lines "call; // answer" or "call; // answer: words" of the examples, without the words. */
    private static void readExamples(List<String> readme) {
        boolean code = false;
        for (String line : readme) {
            if (line.startsWith("```")) {
                code = line.equals("```java");
            } else if (code && line.contains("; ") && line.contains("// ")) {
                String call = line.substring(0, line.indexOf("//")).strip();
                String answer = line.substring(line.indexOf("// ") + 3).split(":")[0].strip();
                told.add(call + " // " + answer);
            }
        }
    }

    /** The next example is this call, and tells this answer. */
    private static void shown(String call, Object answer) {
        String line = at < told.size() ? told.get(at) : "nothing more";
        at++;
        boolean same = line.equals(call + "; // " + answer);
        Checks.equal("the README has \"" + line + "\" for " + call + " with " + answer + ", same", 1, same ? 1 : 0);
    }

    private static void firstExample(SightLegend map) {
        shown("map.limit(0, 20)", map.limit(0, 20));
        shown("map.setKind(0, 5, 2)", map.setKind(0, 5, 2));
        shown("map.setKind(3, 1, 2)", map.setKind(3, 1, 2));
        shown("map.addSign(0, 50, 50, 10, 0)", map.addSign(0, 50, 50, 10, 0));
        shown("map.addSign(0, 60, 50, 30, 0)", map.addSign(0, 60, 50, 30, 0));
        shown("map.addSign(3, 70, 90, 0, 4)", map.addSign(3, 70, 90, 0, 4));
        shown("map.lines()", map.lines());
        shown("map.line(0, 0)", map.line(0, 0));
        shown("map.line(1, 1)", map.line(1, 1));
        shown("map.sign(1, 8)", map.sign(1, 8));
        shown("map.box(0)", map.box(0));
        shown("map.box(4)", map.box(4));
        shown("map.explained()", map.explained());
        shown("map.setWindow(0, 0, 100, 100, 3)", map.setWindow(0, 0, 100, 100, 3));
        shown("map.lines()", map.lines());
        shown("map.zoomFor(3)", map.zoomFor(3));
        shown("map.undo()", map.undo());
        shown("map.linesSaved(2)", map.linesSaved(2));
    }

    private static void textExample(SightLegend map, List<String> readme) {
        String text = "3,70,90,0,4;0,50,50,10,0;";
        boolean stands = readme.contains("String text = \"" + text + "\";");
        Checks.equal("the README has the text " + text, 1, stands ? 1 : 0);
        for (int i = 0; i < text.length(); i++) {
            map.append(text.charAt(i));
        }
        shown("map.parse()", map.parse());
        shown("map.append(';')", map.append(';'));
        shown("map.parse()", map.parse());
        shown("map.clearText()", map.clearText());
    }

    /** The table has every call of the class. */
    private static void calls(List<String> readme) {
        for (Method m : SightLegend.class.getDeclaredMethods()) {
            if (Modifier.isPublic(m.getModifiers())) {
                String entry = "`" + m.getName() + "` (";
                boolean named = readme.stream().anyMatch(line -> line.startsWith("|") && line.contains(entry));
                Checks.equal("the README names " + m.getName(), 1, named ? 1 : 0);
            }
        }
    }

    public static void main(String[] args) throws IOException {
        List<String> readme = Files.readAllLines(Path.of("README.md"));
        readExamples(readme);
        SightLegend map = new SightLegend();
        firstExample(map);
        textExample(map, readme);
        Checks.equal("examples of the README", told.size(), at);
        calls(readme);
        Checks.end();
    }
}
