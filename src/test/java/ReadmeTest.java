import java.io.IOException;
import java.nio.charset.StandardCharsets;
import java.nio.file.DirectoryStream;
import java.nio.file.Files;
import java.nio.file.Path;
import java.nio.file.StandardCopyOption;
import java.util.ArrayList;
import java.util.Comparator;
import java.util.List;
import java.util.TreeSet;
import java.util.regex.Matcher;
import java.util.regex.Pattern;
import java.util.stream.Collectors;
import java.util.stream.Stream;

/** README.md: what it names is there, and what it says is done as it says, in a copy of this folder. Run from here. */
final class ReadmeTest {
    private static String readme;
    private static String doc;

    private ReadmeTest() {
    }

    public static void main(String[] args) throws IOException, InterruptedException {
        readme = read(Path.of("README.md"));
        doc = read(Path.of("../shared/DOC.md"));
        names();
        calls();
        Path copy = Files.createTempDirectory("readme");
        try {
            asItSays(copy);
        } finally {
            remove(copy);
        }
        Due.end("ReadmeTest");
    }

    private static String read(Path path) throws IOException {
        return Files.readString(path, StandardCharsets.UTF_8);
    }

    private static List<String> blocks(String kind) {
        List<String> blocks = new ArrayList<>();
        Matcher m = Pattern.compile("```" + kind + "\n(.*?)```", Pattern.DOTALL).matcher(readme);
        while (m.find()) blocks.add(m.group(1));
        return blocks;
    }

    private static void names() throws IOException {
        TreeSet<String> paths = new TreeSet<>();
        Matcher m = Pattern.compile("`([^`\n]*)`").matcher(readme.replaceAll("(?s)```.*?```", ""));
        while (m.find()) if (m.group(1).matches("[\\w./*]*/[\\w./*]*")) paths.add(m.group(1));
        paths.remove("/out/");
        paths.add(".ci/run");
        for (String path : paths) Due.be("README.md names " + path + ", which is there", isThere(path) ? 1 : 0, 1);
        Due.be("README.md names paths", paths.size() > 10 ? 1 : 0, 1);
        Due.be("/out/ is left aside", List.of(read(Path.of(".gitignore")).split("\n")).contains("/out/") ? 1 : 0, 1);
        Due.be(".ci/run is executable", Files.isExecutable(Path.of(".ci/run")) ? 1 : 0, 1);
        for (Path test : own("*Test.java")) Due.be("README.md names " + test, paths.contains(test.toString()) ? 1 : 0, 1);
    }

    private static List<Path> own(String pattern) throws IOException {
        List<Path> found = new ArrayList<>();
        try (DirectoryStream<Path> all = Files.newDirectoryStream(Path.of("src/test/java"), pattern)) {
            for (Path p : all) found.add(p);
        }
        return found;
    }

    private static boolean isThere(String path) throws IOException {
        if (!path.contains("*")) return Files.exists(Path.of(path));
        return path.startsWith("src/test/java/") && !own(path.substring("src/test/java/".length())).isEmpty();
    }

    /** A row for each call of the face, in its order, and for nothing else. */
    private static void calls() {
        String face = doc.substring(doc.indexOf("## The public face"), doc.indexOf("## Terms"));
        List<String> due = new ArrayList<>();
        Matcher m = Pattern.compile("public (?:int|long) (\\w+\\([^)]*\\));").matcher(face);
        while (m.find()) due.add(m.group(1));
        List<String> rows = new ArrayList<>();
        m = Pattern.compile("(?m)^\\| `([^`]*)` \\|").matcher(readme);
        while (m.find()) rows.add(m.group(1));
        Due.be("README.md's rows " + rows + " are the face's calls " + due, rows.equals(due) && due.size() == 29 ? 1 : 0, 1);
    }

    private static void asItSays(Path copy) throws IOException, InterruptedException {
        Path folder = Files.createDirectories(copy.resolve("main"));
        copyTo(folder, Path.of("src"));
        Files.createDirectories(copy.resolve("shared"));
        Files.copy(Path.of("../shared/DOC.md"), copy.resolve("shared/DOC.md"));
        Files.writeString(folder.resolve("Example.java"), blocks("java").get(0));
        List<String> commands = blocks("sh");
        Due.be("README.md's rows of commands", commands.size(), 2);
        String printed = run(folder, commands.get(0));
        Due.be("the example prints [" + printed + "]", printed.equals(blocks("text").get(0)) ? 1 : 0, 1);
        printed = run(folder, commands.get(1));
        Due.be("one test alone prints [" + printed + "]", printed.endsWith(" 0 not as due\n") ? 1 : 0, 1);
    }

    private static void copyTo(Path folder, Path tree) throws IOException {
        for (Path p : walk(tree)) {
            Path there = folder.resolve(p);
            if (Files.isDirectory(p)) Files.createDirectories(there);
            else Files.copy(p, there, StandardCopyOption.REPLACE_EXISTING);
        }
    }

    private static List<Path> walk(Path tree) throws IOException {
        try (Stream<Path> all = Files.walk(tree)) {
            return all.collect(Collectors.toList());
        }
    }

    private static void remove(Path tree) throws IOException {
        List<Path> all = walk(tree);
        all.sort(Comparator.reverseOrder());
        for (Path p : all) Files.delete(p);
    }

    private static String run(Path folder, String commands) throws IOException, InterruptedException {
        Process p = new ProcessBuilder("bash", "-e", "-c", commands).directory(folder.toFile()).redirectErrorStream(true).start();
        String printed = new String(p.getInputStream().readAllBytes(), StandardCharsets.UTF_8);
        Due.be("[" + commands + "] ends with", p.waitFor(), 0);
        return printed;
    }
}
