import java.net.URL;
import java.net.URLClassLoader;
import java.nio.file.Files;
import java.nio.file.Path;
import java.util.ArrayList;
import java.util.Arrays;
import java.util.LinkedHashMap;
import java.util.List;
import java.util.Map;
import java.util.Random;
import java.util.Set;
import java.util.TreeSet;
import java.util.regex.Matcher;
import java.util.regex.Pattern;
import javax.tools.ToolProvider;

/**
 * README.md: its Java compiles and answers as it shows, and its tables have every call of the
 * class in the face's order, with all that it answers otherwise and nothing else.
 */
public final class ReadmeTest {
    private static final Pattern BLOCK = Pattern.compile("```java\n(.*?)```", Pattern.DOTALL);
    private static final Pattern SHOWN =
        Pattern.compile("(.*\\));\\s*// (-?\\d+|BAD|STATE|FULL|NONE|NO)\\b.*");
    private static final Pattern ROW = Pattern.compile("^\\| `(\\w+)\\((.*?)\\)` \\|.*\\|(.*)\\|$", Pattern.MULTILINE);
    private static final Pattern CALL = Pattern.compile("^    public (?:int|long) (\\w+)\\((.*)\\) \\{$",
        Pattern.MULTILINE);
    private static final Pattern CONSTANT = Pattern.compile("`(BAD|STATE|FULL|NONE|NO)`");
    private static final int RUNS = 300, CALLS = 300, FIRST_FAULT = -10;

    private static final Map<String, Set<String>> OTHERWISE = new LinkedHashMap<>();

    public static void main(String[] args) throws Exception {
        String readme = Files.readString(Path.of("README.md"));
        String source = Files.readString(Path.of("src/main/java/KindStreets.java"));
        Check.same("the calls of the tables", signatures(ROW, readme), signatures(CALL, source));
        readOtherwise(readme);
        whatIsShown(readme);
        everyRefusalIsShown(readme);
        nothingElseIsAnswered();
        everyTestIsNamed(readme);
        Check.end();
    }

    private static String signatures(Pattern pattern, String text) {
        List<String> calls = new ArrayList<>();
        Matcher found = pattern.matcher(text);
        while (found.find()) {
            calls.add(found.group(1) + "(" + found.group(2) + ")");
        }
        return calls.toString();
    }

    private static void readOtherwise(String readme) {
        Matcher rows = ROW.matcher(readme);
        while (rows.find()) {
            Set<String> constants = new TreeSet<>();
            Matcher named = CONSTANT.matcher(rows.group(3));
            while (named.find()) {
                constants.add(named.group(1));
            }
            OTHERWISE.put(rows.group(1), constants);
        }
    }

    /** The page's code as a class of its own, in which each answer that is shown is due. */
    private static void whatIsShown(String readme) throws Exception {
        StringBuilder helpers = new StringBuilder();
        StringBuilder steps = new StringBuilder();
        Matcher blocks = BLOCK.matcher(readme);
        while (blocks.find()) {
            StringBuilder into = blocks.group(1).startsWith("static ") ? helpers : steps;
            for (String line : blocks.group(1).split("\n")) {
                into.append(asDue(line)).append('\n');
            }
        }
        run("Shown", "public final class Shown {\n" + helpers + "public static void main(String[] args) {\n"
            + steps + "}\n}\n");
    }

    private static String asDue(String line) {
        Matcher shown = SHOWN.matcher(line);
        if (!shown.matches()) {
            return line;
        }
        String answer = Character.isLetter(shown.group(2).charAt(0)) ? "KindStreets." + shown.group(2) : shown.group(2);
        return "Check.due(\"README.md: " + shown.group(1).replace("\"", "'") + "\", " + shown.group(1) + ", "
            + answer + ");";
    }

    private static void run(String name, String source) throws Exception {
        Path dir = Files.createTempDirectory("readme");
        Path file = dir.resolve(name + ".java");
        try {
            Files.writeString(file, source);
            int status = ToolProvider.getSystemJavaCompiler().run(null, null, null, "-cp",
                System.getProperty("java.class.path"), "-d", dir.toString(), file.toString());
            Check.due("README.md: its code compiles", status, 0);
            if (status == 0) {
                try (URLClassLoader loader = new URLClassLoader(new URL[] {dir.toUri().toURL()})) {
                    loader.loadClass(name).getMethod("main", String[].class).invoke(null, (Object) new String[0]);
                }
            }
        } finally {
            Files.deleteIfExists(dir.resolve(name + ".class"));
            Files.deleteIfExists(file);
            Files.deleteIfExists(dir);
        }
    }

    private static void everyRefusalIsShown(String readme) {
        for (String call : OTHERWISE.keySet()) {
            for (String constant : OTHERWISE.get(call)) {
                Pattern shown = Pattern.compile("^x\\." + call + "\\(.*\\);\\s+// " + constant + "\\b", Pattern.MULTILINE);
                Check.due("README.md shows " + constant + " of " + call, shown.matcher(readme).find() ? 1 : 0, 1);
            }
        }
    }

    /** Whatever is below 0 stands in the call's row. */
    private static void nothingElseIsAnswered() throws Exception {
        for (int run = 0; run < RUNS; run++) {
            Random dice = new Random(run);
            KindStreets x = new KindStreets();
            Check.tell(x, "y5;s0 1 3;s1 2 1;s0 2 0;s2 3 5;c0 4;c0 2;c1 6;c3 9;");
            for (int i = 0; i < CALLS; i++) {
                answerIsNamed(x, dice);
            }
        }
    }

    private static void answerIsNamed(KindStreets x, Random dice) throws Exception {
        List<String> calls = new ArrayList<>(OTHERWISE.keySet());
        String call = calls.get(dice.nextInt(calls.size()));
        var method = Arrays.stream(KindStreets.class.getMethods()).filter(m -> m.getName().equals(call)).findFirst().get();
        Object[] numbers = new Object[method.getParameterCount()];
        for (int i = 0; i < numbers.length; i++) {
            numbers[i] = dice.nextInt(8) - 1;
        }
        long answer = ((Number) method.invoke(x, numbers)).longValue();
        boolean isFault = call.equals("town") && answer <= FIRST_FAULT;
        boolean isMark = call.equals("mark") && answer > KindStreets.NO;
        if (answer < 0 && !isFault && !isMark) {
            Check.due("README.md names " + answer + " of " + call, OTHERWISE.get(call).contains(nameOf(answer)) ? 1 : 0, 1);
        }
    }

    private static String nameOf(long answer) throws Exception {
        for (String name : new String[] {"BAD", "STATE", "FULL", "NONE", "NO"}) {
            if (KindStreets.class.getField(name).getInt(null) == answer) {
                return name;
            }
        }
        return "";
    }

    private static void everyTestIsNamed(String readme) throws Exception {
        try (var files = Files.list(Path.of("src/test/java"))) {
            for (Path file : files.toArray(Path[]::new)) {
                String name = file.getFileName().toString().replace(".java", "");
                if (name.endsWith("Test")) {
                    Check.due("README.md names " + name, readme.contains("| `" + name + "` |") ? 1 : 0, 1);
                }
            }
        }
    }
}
