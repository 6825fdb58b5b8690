import java.nio.file.Files;
import java.nio.file.Path;
import java.util.ArrayList;
import java.util.List;
import java.util.Set;
import java.util.TreeSet;
import java.util.regex.Matcher;
import java.util.regex.Pattern;

/** README.md: its example runs and prints what it says; its refused calls answer what it says. */
public final class ReadmeTest {
    private static final Set<Long> REFUSALS = Set.of(-1L, -2L, -3L, -4L, -5L, -6L, -7L, -8L, -100L, -200L);

    public static void main(String[] args) throws Exception {
        String readme = Files.readString(Path.of("README.md"));
        String example = block(readme, "java");
        Check.isTrue("the example prints what README.md says", printed(example).equals(block(readme, "text")));
        refusedCalls(readme, ">" + textOf(example));
        commands(readme);
        Check.finish();
    }

    private static String block(String readme, String kind) {
        int start = readme.indexOf("```" + kind + "\n") + kind.length() + 4;
        return readme.substring(start, readme.indexOf("```", start));
    }

    private static String printed(String example) throws Exception {
        Path out = Files.createTempDirectory("readme");
        Path source = Files.writeString(out.resolve("Example.java"), example);
        String compiled = run("javac", "-d", out.toString(), "src/main/java/LieKitchen.java", source.toString());
        Check.isTrue("the example compiles: " + compiled, compiled.isEmpty());
        String printed = run("java", "-cp", out.toString(), "Example");
        try (var files = Files.walk(out)) {
            for (Path file : files.sorted(java.util.Comparator.reverseOrder()).toList()) {
                Files.delete(file);
            }
        }
        return printed;
    }

    private static String run(String... command) throws Exception {
        Process process = new ProcessBuilder(command).redirectErrorStream(true).start();
        String printed = new String(process.getInputStream().readAllBytes());
        Check.due(command[0], process.waitFor(), 0);
        return printed;
    }

    /** The texts that stand in the call of feed, joined. */
    private static String textOf(String example) {
        int start = example.indexOf("feed(x, ");
        String call = example.substring(start, example.indexOf(";\n", example.indexOf("person", start)));
        StringBuilder text = new StringBuilder();
        Matcher m = Pattern.compile("\"([^\"]*)\"").matcher(call);
        while (m.find()) {
            text.append(m.group(1));
        }
        return text.toString();
    }

    private static void refusedCalls(String readme, String kitchen) {
        Set<Long> seen = new TreeSet<>();
        Matcher rows = Pattern.compile("(?m)^\\| `(-\\d+)` \\|.*\\| (`[^|]*`) \\|$").matcher(readme);
        while (rows.find()) {
            List<String> steps = new ArrayList<>(List.of(kitchen));
            String last = "";
            for (String call : rows.group(2).split("`, `")) {
                if (!last.isEmpty()) {
                    steps.add(last + " = ?");
                }
                last = call.replaceAll("[`,()]", " ").strip();
            }
            long due = Long.parseLong(rows.group(1));
            Check.due("README.md, " + rows.group(2), Sentence.answer(last, steps.toArray(new String[0])), due);
            seen.add(due);
        }
        Check.isTrue("each refusal has its row: " + seen, seen.equals(REFUSALS));
    }

    /** What the README says to call is there, and NOTES.md names each test. */
    private static void commands(String readme) throws Exception {
        Check.isTrue(".ci/run", readme.contains("`.ci/run`") && Files.isExecutable(Path.of(".ci/run")));
        Matcher names = Pattern.compile("\\b\\w+(Test|Runs)\\b").matcher(readme);
        while (names.find()) {
            boolean own = Files.exists(Path.of("src/test/java", names.group() + ".java"));
            Check.isTrue(names.group(), own || Files.exists(Path.of("../shared/tests", names.group() + ".java")));
        }
        String notes = Files.readString(Path.of("NOTES.md"));
        try (var tests = Files.list(Path.of("src/test/java"))) {
            for (Path test : tests.filter(t -> t.toString().endsWith("Test.java")).toList()) {
                String name = test.getFileName().toString().replace(".java", "");
                Check.isTrue("NOTES.md names " + name, notes.contains(name));
            }
        }
    }
}
