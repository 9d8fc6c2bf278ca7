import java.io.File;
import java.io.IOException;
import java.nio.file.FileVisitResult;
import java.nio.file.Files;
import java.nio.file.Path;
import java.nio.file.SimpleFileVisitor;
import java.nio.file.attribute.BasicFileAttributes;
import java.util.ArrayList;
import java.util.Collections;
import java.util.List;
import java.util.regex.Matcher;
import java.util.regex.Pattern;

/** The commands that README.md gives work in a clean copy of the folder, and print what it says they print. */
public final class ReadmeTest {
    private static final Pattern BLOCK = Pattern.compile("```(\\w+)\n(.*?)```\n", Pattern.DOTALL);
    private static final String ALL_TESTS = ".ci/run";

    public static void main(String[] args) throws Exception {
        Checks.part("README.md");
        String file = System.getenv("QUARREL_MILES_SOURCE");
        Path source = Path.of(file == null ? "src/main/java/QuarrelMiles.java" : file).toAbsolutePath();
        Path root = source.getParent().getParent().getParent().getParent();
        String readme = Files.readString(root.resolve("README.md"));
        Path copy = Files.createTempDirectory("readme");
        try {
            copyAll(root, copy);
            commands(readme, copy);
        } finally {
            remove(copy);
        }
        lines(readme, Files.readString(root.resolve("src/test/java/Example.java")));
        table(readme, root.resolve("src/test/java"));
        Checks.due(ALL_TESTS + " can be run", Files.isExecutable(root.resolve(ALL_TESTS)), true);
        Checks.close();
    }

    private static void commands(String readme, Path folder) throws IOException, InterruptedException {
        String printed = "";
        int run = 0;
        int compared = 0;
        boolean areAllTestsNamed = false;
        Matcher block = BLOCK.matcher(readme);
        while (block.find()) {
            String text = block.group(2);
            if (block.group(1).equals("text")) {
                compared++;
                Checks.due("[" + printed + "] is what the page says", printed.equals(text), true);
            } else if (block.group(1).equals("sh") && text.strip().equals(ALL_TESTS)) {
                // It runs this test: it is running now, or was not asked for.
                areAllTestsNamed = true;
            } else if (block.group(1).equals("sh")) {
                run++;
                printed = run(text, folder);
            }
        }
        Checks.due(ALL_TESTS + " is named", areAllTestsNamed, true);
        Checks.due("blocks of commands that were run", run, 2);
        Checks.due("blocks of what is printed", compared, 1);
    }

    private static String run(String commands, Path folder) throws IOException, InterruptedException {
        File printed = File.createTempFile("readme", ".txt");
        try {
            ProcessBuilder shell = new ProcessBuilder("bash", "-e", "-c", commands);
            shell.directory(folder.toFile()).redirectErrorStream(true).redirectOutput(printed);
            shell.environment().remove("QUARREL_MILES_SOURCE");
            int code = shell.start().waitFor();
            String text = Files.readString(printed.toPath());
            Checks.due("[" + commands + "] which printed [" + text + "]", code, 0);
            return text;
        } finally {
            Files.deleteIfExists(printed.toPath());
        }
    }

    /** The lines of Java on the page are those of the example. */
    private static void lines(String readme, String example) {
        Matcher block = BLOCK.matcher(readme);
        int found = 0;
        while (block.find()) {
            if (block.group(1).equals("java")) {
                found++;
                Checks.due("[" + block.group(2) + "] stands in the example", example.contains(block.group(2)), true);
            }
        }
        Checks.due("blocks of Java", found, 1);
    }

    /** The tests of the table are those that there are. */
    private static void table(String readme, Path folder) {
        List<String> told = new ArrayList<>();
        Matcher row = Pattern.compile("\n\\| `(\\w+Test)` \\|").matcher(readme);
        while (row.find()) {
            told.add(row.group(1) + ".java");
        }
        List<String> files = new ArrayList<>();
        String[] names = folder.toFile().list();
        for (String name : names == null ? new String[0] : names) {
            if (name.endsWith("Test.java")) {
                files.add(name);
            }
        }
        Collections.sort(told);
        Collections.sort(files);
        Checks.due("the tests of the table " + told + " are those of the folder " + files, told.equals(files), true);
    }

    /** What a checkout has: the page and the sources. */
    private static void copyAll(Path root, Path copy) throws IOException {
        Files.copy(root.resolve("README.md"), copy.resolve("README.md"));
        Path sources = root.resolve("src");
        Files.walkFileTree(sources, new SimpleFileVisitor<>() {
            @Override
            public FileVisitResult visitFile(Path file, BasicFileAttributes attributes) throws IOException {
                if (file.toString().endsWith(".java")) {
                    Path to = copy.resolve(root.relativize(file).toString());
                    Files.createDirectories(to.getParent());
                    Files.copy(file, to);
                }
                return FileVisitResult.CONTINUE;
            }
        });
    }

    private static void remove(Path folder) throws IOException {
        Files.walkFileTree(folder, new SimpleFileVisitor<>() {
            @Override
            public FileVisitResult visitFile(Path file, BasicFileAttributes attributes) throws IOException {
                Files.delete(file);
                return FileVisitResult.CONTINUE;
            }

            @Override
            public FileVisitResult postVisitDirectory(Path visited, IOException failed) throws IOException {
                Files.delete(visited);
                return FileVisitResult.CONTINUE;
            }
        });
    }
}
