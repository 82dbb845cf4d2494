import java.io.IOException;
import java.lang.reflect.Method;
import java.lang.reflect.Modifier;
import java.nio.charset.StandardCharsets;
import java.nio.file.Files;
import java.nio.file.Path;
import java.util.ArrayList;
import java.util.Comparator;
import java.util.List;
import java.util.Set;
import java.util.TreeSet;
import java.util.regex.Matcher;
import java.util.regex.Pattern;
import java.util.stream.Collectors;
import java.util.stream.Stream;

/** README.md: its program and its commands, tried as they are written, and its list of calls. */
public final class ReadmeTests {
    private static final Path README = Path.of("README.md");
    private static final Path SOURCES = Path.of("src");

    private final Checks checks = new Checks();
    private final String page;

    private ReadmeTests(String page) {
        this.page = page;
    }

    public static void main(String[] arguments) throws IOException, InterruptedException {
        ReadmeTests tests = new ReadmeTests(Files.readString(README));
        Path copy = Files.createTempDirectory("readme");
        try {
            copyOfTheProject(copy);
            tests.blocks(copy);
        } finally {
            delete(copy);
        }
        tests.calls();
        tests.testClasses();
        tests.checks.close("ReadmeTests");
    }

    /** The commands write beside the sources, so they are tried in a copy. */
    private static void copyOfTheProject(Path copy) throws IOException {
        for (Path file : filesUnder(SOURCES)) {
            Path target = copy.resolve(file.toString());
            if (Files.isDirectory(file)) {
                Files.createDirectories(target);
            } else {
                Files.copy(file, target);
            }
        }
        Files.createDirectory(copy.resolve("build"));
    }

    private static void delete(Path copy) throws IOException {
        List<Path> files = filesUnder(copy);
        files.sort(Comparator.reverseOrder());
        for (Path file : files) {
            Files.delete(file);
        }
    }

    private static List<Path> filesUnder(Path directory) throws IOException {
        try (Stream<Path> files = Files.walk(directory)) {
            return files.collect(Collectors.toCollection(ArrayList::new));
        }
    }

    private void blocks(Path copy) throws IOException, InterruptedException {
        int programs = 0;
        int commands = 0;
        String printed = "";
        Matcher block = Pattern.compile("(?ms)^```(\\w+)\n(.*?)^```$").matcher(page);
        while (block.find()) {
            String content = block.group(2);
            switch (block.group(1)) {
                case "java":
                    programs++;
                    Files.writeString(copy.resolve("build/FirstGame.java"), content);
                    break;
                case "sh":
                    commands++;
                    printed = tried(content, copy);
                    break;
                default:
                    checks.due("what the commands print", content, printed);
                    break;
            }
        }
        int foundPrograms = programs;
        int foundCommands = commands;
        checks.due("programs", 1, () -> foundPrograms);
        checks.due("groups of commands", 3, () -> foundCommands);
    }

    private String tried(String commands, Path copy) throws IOException, InterruptedException {
        if (commands.equals(".ci/run\n")) {
            // This very test runs in it.
            checks.due(".ci/run can be executed", "true",
                    "" + Files.isExecutable(Path.of(".ci/run")));
            return "";
        }
        Process process = new ProcessBuilder("sh", "-e", "-c", commands)
                .directory(copy.toFile())
                .redirectError(ProcessBuilder.Redirect.INHERIT)
                .start();
        byte[] printed = process.getInputStream().readAllBytes();
        int end = process.waitFor();
        checks.due(commands, 0, () -> end);
        return new String(printed, StandardCharsets.UTF_8);
    }

    private void calls() {
        Set<String> face = new TreeSet<>();
        for (Method method : TileWordBoard.class.getDeclaredMethods()) {
            if (Modifier.isPublic(method.getModifiers())) {
                face.add(method.getName() + " of " + method.getParameterCount());
            }
        }
        Set<String> named = new TreeSet<>();
        Matcher call = Pattern.compile("(?m)^\\| `(\\w+)\\((.*?)\\)`").matcher(page);
        while (call.find()) {
            String parameters = call.group(2);
            int count = parameters.isEmpty() ? 0 : parameters.split(", ").length;
            named.add(call.group(1) + " of " + count);
        }
        checks.due("the calls that the page lists", face.toString(), named.toString());
    }

    private void testClasses() throws IOException {
        Set<String> tests = new TreeSet<>();
        for (Path file : filesUnder(SOURCES)) {
            String name = file.getFileName().toString();
            if (name.endsWith("Tests.java")) {
                tests.add(name.substring(0, name.length() - ".java".length()));
            }
        }
        Set<String> named = new TreeSet<>();
        Matcher test = Pattern.compile("(?m)^\\| `(\\w+Tests)`").matcher(page);
        while (test.find()) {
            named.add(test.group(1));
        }
        checks.due("the tests that the page lists", tests.toString(), named.toString());
    }
}
