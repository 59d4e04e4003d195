import java.io.IOException;
import java.nio.file.Files;
import java.nio.file.Path;
import java.util.ArrayList;
import java.util.List;
import java.util.Set;
import java.util.TreeSet;
import java.util.regex.Matcher;
import java.util.regex.Pattern;
import java.util.stream.Collectors;
import java.util.stream.Stream;

/** README.md tried as it stands, in a copy of the project: its program, its commands, what they print, its names. */
public final class ReadmeTest {
    private static final Check CHECK = new Check("ReadmeTest");

    /** A piece of the page between two fences: what it is written in, and its text. */
    private record Block(String kind, String text) {
    }

    public static void main(String[] args) throws IOException, InterruptedException {
        Path source = Path.of(System.getProperty("source", "src/main/java/TouchedAndStands.java")).toAbsolutePath();
        Path home = source.getParent().getParent().getParent().getParent().normalize();
        String page = Files.readString(home.resolve("README.md"));
        Path copy = copied(home);
        try {
            tryBlocks(blocks(page), copy);
        } finally {
            remove(copy.getParent());
        }
        testsAreNamed(page, home);
        refusalsAreAsTold(page);
        CHECK.end();
    }

    private static List<Block> blocks(String page) {
        List<Block> all = new ArrayList<>();
        Matcher m = Pattern.compile("(?ms)^```(\\w+)\n(.*?)^```$").matcher(page);
        while (m.find()) {
            all.add(new Block(m.group(1), m.group(2)));
        }
        return all;
    }

    /** A copy, so that what the page has its reader write does not lie about in the project. */
    private static Path copied(Path home) throws IOException {
        Path copy = Files.createTempDirectory("readme").resolve("project");
        List<Path> files;
        try (Stream<Path> walk = Files.walk(home.resolve("src"))) {
            files = walk.filter(Files::isRegularFile).collect(Collectors.toList());
        }
        for (Path file : files) {
            Path target = copy.resolve(home.relativize(file));
            Files.createDirectories(target.getParent());
            Files.copy(file, target);
        }
        Files.createSymbolicLink(copy.resolveSibling("shared"), home.resolve("../shared").toRealPath());
        return copy;
    }

    private static void remove(Path directory) throws IOException {
        List<Path> deepestFirst;
        try (Stream<Path> walk = Files.walk(directory)) {
            deepestFirst = walk.sorted((a, b) -> b.compareTo(a)).collect(Collectors.toList());
        }
        for (Path path : deepestFirst) {
            Files.delete(path);
        }
    }

    /** The program is written down, the commands are given, and a text behind commands is what they print. */
    private static void tryBlocks(List<Block> all, Path copy) throws IOException, InterruptedException {
        Set<String> kinds = new TreeSet<>();
        String printed = null;
        for (Block block : all) {
            kinds.add(block.kind());
            if (block.kind().equals("java")) {
                Files.writeString(copy.resolve("Example.java"), block.text());
            } else if (block.kind().equals("sh")) {
                printed = answerTo(block.text(), copy);
            } else {
                CHECK.holds("a text stands behind commands", printed != null);
                CHECK.same("what the page says is printed", block.text(), String.valueOf(printed));
                printed = null;
            }
        }
        CHECK.holds("the page has a program, commands and texts: " + kinds, kinds.equals(Set.of("java", "sh", "text")));
    }

    private static String answerTo(String commands, Path copy) throws IOException, InterruptedException {
        Process shell = new ProcessBuilder("sh", "-e", "-c", commands).directory(copy.toFile())
            .redirectError(ProcessBuilder.Redirect.INHERIT).start();
        shell.getOutputStream().close();
        String printed = new String(shell.getInputStream().readAllBytes());
        CHECK.due("the exit code of\n" + commands, shell.waitFor(), 0);
        return printed;
    }

    private static void testsAreNamed(String page, Path home) throws IOException {
        Set<String> files = new TreeSet<>();
        try (Stream<Path> list = Files.list(home.resolve("src/test/java"))) {
            list.forEach(file -> files.add(file.getFileName().toString().replace(".java", "")));
        }
        Set<String> named = new TreeSet<>();
        Matcher m = Pattern.compile("`([A-Z][A-Za-z]+)`").matcher(page);
        while (m.find()) {
            named.add(m.group(1));
        }
        CHECK.same("the files that the page names", named.toString(), files.toString());
    }

    /** Each row of the table of refusals, tried on a call that is refused so. */
    private static void refusalsAreAsTold(String page) {
        Matcher row = Pattern.compile("(?m)^\\| (-\\d) \\| .* \\| `count\\((\\d+)\\)` \\|$").matcher(page);
        int rows = 0;
        while (row.find()) {
            rows++;
            int answer = Integer.parseInt(row.group(1));
            int counter = Integer.parseInt(row.group(2));
            TouchedAndStands x = Check.told("kc000;kr010;kf130;");
            String before = Look.open(x);
            CHECK.due("refused with " + answer, refused(x, answer), answer);
            CHECK.due("counted in " + counter, x.count(counter), 1);
            CHECK.same("what it leaves", Look.open(x), before);
            CHECK.due("worth or debt told less " + answer, refusedUpHere(x, answer), 1000000000 - answer);
            CHECK.due("mean told less " + answer, refusedMean(x, answer), 4000000000000000000L - answer);
        }
        CHECK.due("rows of the table", rows, 5);
    }

    private static int refused(TouchedAndStands x, int answer) {
        switch (answer) {
            case -1:
                return x.child(3, 0);
            case -2:
                return x.law(4);
            case -3:
                return x.touch(0);
            case -4:
                return x.seconds(0);
            default:
                return x.seconds(61);
        }
    }

    /** Of these calls just -1 and -3 can be answered so. */
    private static int refusedUpHere(TouchedAndStands x, int answer) {
        return answer == -1 ? x.debt(3) : answer == -3 ? x.worth(0) : 1000000000 - answer;
    }

    /** mean() knows no -1 and no -3. */
    private static long refusedMean(TouchedAndStands x, int answer) {
        return answer == -2 ? x.mean(1, 2) : answer == -4 ? x.mean(-1, 0) : answer == -6 ? x.mean(61, 0)
            : 4000000000000000000L - answer;
    }
}
