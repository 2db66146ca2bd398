import java.io.File;
import java.io.IOException;
import java.lang.reflect.Method;
import java.lang.reflect.Modifier;
import java.nio.file.Files;
import java.nio.file.Path;
import java.util.ArrayList;
import java.util.Comparator;
import java.util.List;
import java.util.Set;
import java.util.TreeSet;
import java.util.regex.Matcher;
import java.util.regex.Pattern;
import java.util.stream.Stream;

/** What README.md says, tried out as it is written, in a directory of its own beside which stands the shared one. */
public final class ReadmeTest {
    private static final Checks c = new Checks("ReadmeTest");
    private static final Pattern BLOCK = Pattern.compile("(?ms)^```(\\w+)\\n(.*?)^```$");
    private static final Pattern PROGRAM = Pattern.compile("public final class (\\w+)");
    private static final Pattern ROW = Pattern.compile("(?m)^\\| (\\w+Test) \\|");
    private static final Pattern CALL = Pattern.compile("`(\\w+)\\(([^)]*)\\)`");
    // It runs this test too, so trying it out here would never end; who runs all tests has tried it out.
    private static final String ALL_TESTS = ".ci/run";

    private final Path place;
    private String printed = "";

    private ReadmeTest(Path place) {
        this.place = place;
    }

    public static void main(String[] args) throws IOException, InterruptedException {
        String readme = Files.readString(Path.of("README.md"));
        Path above = Files.createTempDirectory("readme");
        try {
            Files.createSymbolicLink(above.resolve("shared"), Path.of("../shared").toRealPath());
            Path place = Files.createDirectory(above.resolve("main"));
            Files.createSymbolicLink(place.resolve("src"), Path.of("src").toRealPath());
            new ReadmeTest(place).tryOut(readme);
        } finally {
            remove(above);
        }
        namesEachTest(readme);
        namesEachCall(readme);
        c.holds("files that README.md names stand here", Files.exists(Path.of("NOTES.md"))
                && Files.isExecutable(Path.of(ALL_TESTS)));
        c.end();
    }

    private void tryOut(String readme) throws IOException, InterruptedException {
        Set<String> kinds = new TreeSet<>();
        Matcher blocks = BLOCK.matcher(readme);
        while (blocks.find()) {
            kinds.add(blocks.group(1));
            tryBlock(blocks.group(1), blocks.group(2));
        }
        c.holds("README.md has programs, commands and what they print: " + kinds,
                kinds.equals(Set.of("java", "sh", "text")));
    }

    private void tryBlock(String kind, String words) throws IOException, InterruptedException {
        if (kind.equals("java")) {
            Matcher name = PROGRAM.matcher(words);
            boolean whole = name.lookingAt();
            c.holds("the program is whole: " + words, whole);
            if (whole) {
                Files.writeString(place.resolve(name.group(1) + ".java"), words);
            }
        } else if (kind.equals("sh")) {
            runAll(words.split("\n"));
        } else {
            c.holds("printed is\n" + printed + "but README.md says\n" + words, printed.equals(words));
        }
    }

    private void runAll(String[] commands) throws IOException, InterruptedException {
        printed = "";
        for (String command : commands) {
            if (!command.equals(ALL_TESTS)) {
                c.due(command, run(command), 0);
            }
        }
    }

    private int run(String command) throws IOException, InterruptedException {
        File out = place.resolve("printed").toFile();
        Process process = new ProcessBuilder("sh", "-c", command).directory(place.toFile())
                .redirectErrorStream(true).redirectOutput(out).start();
        int exit = process.waitFor();
        printed += Files.readString(out.toPath());
        if (exit != 0) {
            System.out.println(printed);
        }
        return exit;
    }

    private static void namesEachTest(String readme) throws IOException {
        Set<String> named = new TreeSet<>();
        Matcher rows = ROW.matcher(readme);
        while (rows.find()) {
            named.add(rows.group(1));
        }
        Set<String> there = new TreeSet<>();
        try (Stream<Path> files = Files.list(Path.of("src/test/java"))) {
            files.map(file -> file.getFileName().toString()).filter(name -> name.endsWith("Test.java"))
                    .forEach(name -> there.add(name.replace(".java", "")));
        }
        c.holds("the table names " + named + ", there are " + there, named.equals(there));
    }

    private static void namesEachCall(String readme) {
        Set<String> named = new TreeSet<>();
        Matcher calls = CALL.matcher(readme.substring(readme.indexOf("### The calls"), readme.indexOf("## Tests")));
        while (calls.find()) {
            int arguments = calls.group(2).isEmpty() ? 0 : calls.group(2).split(",").length;
            named.add(calls.group(1) + " of " + arguments);
        }
        Set<String> there = new TreeSet<>();
        for (Method method : LuggageTracing.class.getDeclaredMethods()) {
            if (Modifier.isPublic(method.getModifiers())) {
                there.add(method.getName() + " of " + method.getParameterCount());
            }
        }
        c.holds("the table names the calls " + named + ", there are " + there, named.equals(there));
    }

    private static void remove(Path directory) throws IOException {
        List<Path> all = new ArrayList<>();
        try (Stream<Path> found = Files.walk(directory)) {
            found.forEach(all::add);
        }
        all.sort(Comparator.reverseOrder());
        for (Path path : all) {
            Files.delete(path);
        }
    }
}
