import java.io.IOException;
import java.nio.file.Files;
import java.nio.file.Path;
import java.util.ArrayList;
import java.util.LinkedHashMap;
import java.util.List;
import java.util.Map;
import java.util.Set;
import java.util.function.Supplier;

/**
 * The tests of single sentences of the document. Each one quotes its sentence and names the edge
 * that it looks at; it runs by itself and is counted by itself.
 */
final class Sentences {
    private static final Path DOCUMENT = Path.of("../shared/DOC.md");
    private static final Set<String> TITLES = Set.of("Kinds.", "Signs.", "Window.", "Settings.",
            "Legend for some signs (those in sight).", "Rounds.", "Sign text.", "Undo.", "Exceptions.");

    private static final Map<String, List<String>> quotes = new LinkedHashMap<>();
    private static String section = "";
    private static int passed = 0;
    private static int failed = 0;

    /** A call with one argument in question. */
    interface Call {
        void on(SightLegend x, int argument);
    }

    interface Answer {
        int of(SightLegend x);
    }

    private Sentences() {
    }

    /** The heading of the document under which the next sentences stand. */
    static void of(String heading) {
        section = heading;
        quotes.putIfAbsent(heading, new ArrayList<>());
    }

    static void holds(String sentence, String edge, Runnable test) {
        quotes.get(section).add(sentence);
        count(Checks.allRight(test), section + ", \"" + sentence + "\", " + edge);
    }

    /** An argument is refused just outside its range and far away, and taken at both ends. */
    static void range(String sentence, int low, int high, Class<?> refusal, Supplier<SightLegend> map, Call call) {
        outside(sentence, low, high, refusal, map, call);
        for (int end : new int[] {low, high}) {
            holds(sentence, end + " is taken", () -> {
                call.on(map.get(), end);
                Checks.equal("taken", 1, 1);
            });
        }
    }

    /** As above, and what is taken can be read again. */
    static void range(String sentence, int low, int high, Class<?> refusal, Supplier<SightLegend> map, Call call,
            Answer read) {
        outside(sentence, low, high, refusal, map, call);
        for (int end : new int[] {low, high}) {
            holds(sentence, end + " is taken", () -> {
                SightLegend x = map.get();
                call.on(x, end);
                Checks.equal("what was taken", end, read.of(x));
            });
        }
    }

    private static void outside(String sentence, int low, int high, Class<?> refusal, Supplier<SightLegend> map,
            Call call) {
        holds(sentence, "too small", () -> {
            SightLegend x = map.get();
            Checks.refusedAll(x, refusal, a -> call.on(x, a), low - 1, low - 256, Integer.MIN_VALUE);
        });
        holds(sentence, "too large", () -> {
            SightLegend x = map.get();
            Checks.refusedAll(x, refusal, a -> call.on(x, a), high + 1, high + 65536, Integer.MAX_VALUE);
        });
    }

    private static void count(boolean good, String name) {
        if (good) {
            passed++;
        } else {
            failed++;
            System.out.println("FAILED: " + name);
        }
    }

    static void end() throws IOException {
        if (Files.isReadable(DOCUMENT)) {
            compareWithDocument();
        } else {
            System.out.println("there is no " + DOCUMENT + ", so the quotes are not compared with it");
        }
        System.out.println(passed + " passed, " + failed + " failed");
        if (failed != 0 || passed == 0) {
            System.exit(1);
        }
    }

    /** Every quote stands in the document, and every sentence of it that is demanded is quoted. */
    private static void compareWithDocument() throws IOException {
        Map<String, List<String>> document = readDocument();
        boolean allStand = true;
        for (Map.Entry<String, List<String>> one : quotes.entrySet()) {
            List<String> lines = document.getOrDefault(one.getKey(), List.of());
            for (String quote : one.getValue()) {
                if (lines.stream().noneMatch(line -> line.contains(quote))) {
                    allStand = false;
                    System.out.println(one.getKey() + " does not have the sentence \"" + quote + "\"");
                }
            }
        }
        count(allStand, "what the tests quote stands in the document");
        boolean allQuoted = true;
        for (Map.Entry<String, List<String>> one : document.entrySet()) {
            List<String> mine = quotes.getOrDefault(one.getKey(), List.of());
            for (String sentence : demanded(one.getKey(), one.getValue())) {
                if (mine.stream().noneMatch(q -> q.contains(sentence) || sentence.contains(q))) {
                    allQuoted = false;
                    System.out.println(one.getKey() + " has no test of \"" + sentence + "\"");
                }
            }
        }
        count(allQuoted, "each sentence that asks for a test has one");
    }

    /** The lines of each section, under its heading; of "Promise 2: addSign" this is "Promise 2". */
    private static Map<String, List<String>> readDocument() throws IOException {
        Map<String, List<String>> document = new LinkedHashMap<>();
        List<String> lines = new ArrayList<>();
        for (String line : Files.readAllLines(DOCUMENT)) {
            if (line.startsWith("## ")) {
                lines = new ArrayList<>();
                document.put(line.substring(3).split(":")[0], lines);
            } else if (!line.isBlank()) {
                lines.add(line);
            }
        }
        return document;
    }

    private static List<String> demanded(String heading, List<String> lines) {
        List<String> demanded = new ArrayList<>();
        for (String line : lines) {
            if (heading.equals("Terms") && !line.startsWith("Ahead of the calls")) {
                for (String sentence : line.split("(?<=\\.\\)|\\.) (?=[A-Z(])")) {
                    if (!TITLES.contains(sentence)) {
                        demanded.add(sentence);
                    }
                }
            } else if (heading.startsWith("Promise ")) {
                if (line.startsWith("- `")) {
                    demanded.add(line.substring(2));
                } else if (line.startsWith("Throws ") || line.startsWith("Returns ")) {
                    demanded.add(line);
                } else if (line.contains("ndoable")) {
                    demanded.add(line.substring(line.indexOf("`: ") + 3));
                }
            }
        }
        return demanded;
    }
}
