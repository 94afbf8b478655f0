import java.lang.reflect.Method;
import java.nio.file.Files;
import java.nio.file.Path;
import java.util.regex.Matcher;
import java.util.regex.Pattern;

/** README.md names every call with its promise and every finding, and its example answers what it says. */
public final class ReadmeTest {
    private static final Pattern PROMISE = Pattern.compile("## Promise (\\d+): (\\w+)\\s+`([^`]+)`");
    private static final Pattern FINDING = Pattern.compile("LOW( - (\\d))? ([A-Z]+)");
    private static final Pattern FED = Pattern.compile("^for .*\"([^\"]*)\"\\.getBytes\\(\\)\\) lane\\.feed\\(b, 1\\);$");
    private static final Pattern CALLED = Pattern.compile("^lane\\.(\\w+)\\(([-0-9, ]*)\\); *// (-?\\d+): .*$");

    private static int wrong = 0;

    private static void must(boolean holds, String what) {
        if (holds) return;
        wrong++;
        System.out.println("it must hold: " + what);
    }

    public static void main(String[] args) throws Exception {
        String readme = Files.readString(Path.of("README.md"));
        String document = Files.readString(Path.of("../shared/DOC.md"));
        callsAreNamed(readme, document);
        findingsAreNamed(readme, document);
        exampleIsSo(readme);
        must(readme.contains("    .ci/run\n"), "README.md says how to run the tests");
        for (Path test : Files.list(Path.of("src/test/java")).filter(p -> p.toString().endsWith("Test.java")).toList()) {
            String name = test.getFileName().toString().replace(".java", "");
            must(readme.contains("`" + name + "`"), "README.md names " + name);
        }
        System.out.println(wrong == 0 ? "the readme is as told" : wrong + " lines of the readme are not so");
        if (wrong != 0) System.exit(1);
    }

    private static void callsAreNamed(String readme, String document) {
        int named = 0;
        Matcher promise = PROMISE.matcher(document);
        while (promise.find()) {
            named++;
            must(readme.contains("| " + promise.group(1) + " | `" + promise.group(3) + "` |"),
                "README.md names " + promise.group(3) + " with promise " + promise.group(1));
        }
        must(named == 42, "42 promises are of a method, but " + named + " were found");
        must(readme.contains("`new CarpetLane()`") && readme.contains("(promise 1)"), "README.md says what to make");
    }

    private static void findingsAreNamed(String readme, String document) {
        int named = 0;
        String told = document.substring(document.indexOf("LOW is -1000001;"), document.indexOf("(in longs, too)"));
        Matcher finding = FINDING.matcher(told);
        while (finding.find()) {
            int low = finding.group(2) == null ? 0 : Integer.parseInt(finding.group(2));
            named++;
            must(readme.contains("| " + (-1000001 - low) + " | " + finding.group(3) + " |"), "README.md names " + finding.group(3));
        }
        must(named == 7, "seven findings are told, but " + named + " were found");
    }

    private static void exampleIsSo(String readme) throws Exception {
        int begin = readme.indexOf("```java\n");
        must(begin >= 0, "README.md has an example");
        if (begin < 0) return;
        String[] lines = readme.substring(begin + 8, readme.indexOf("```", begin + 8)).split("\n");
        must(lines[0].equals("CarpetLane lane = new CarpetLane();"), "the example begins with an object");
        CarpetLane lane = new CarpetLane();
        for (int i = 1; i < lines.length; i++) lineIsSo(lane, lines[i]);
    }

    private static void lineIsSo(CarpetLane lane, String line) throws Exception {
        Matcher fed = FED.matcher(line);
        if (fed.matches()) {
            for (byte b : fed.group(1).getBytes()) lane.feed(b, 1);
            return;
        }
        Matcher called = CALLED.matcher(line);
        must(called.matches(), "a line of the example is a call with its answer: " + line);
        if (!called.matches()) return;
        String[] words = called.group(2).isBlank() ? new String[0] : called.group(2).split(", ");
        Object[] numbers = new Object[words.length];
        for (int i = 0; i < words.length; i++) numbers[i] = Integer.parseInt(words[i]);
        for (Method m : CarpetLane.class.getMethods()) {
            if (!m.getName().equals(called.group(1))) continue;
            long got = ((Number) m.invoke(lane, numbers)).longValue();
            must(got == Long.parseLong(called.group(3)), line + " (it answered " + got + ")");
        }
    }
}
