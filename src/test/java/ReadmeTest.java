import java.io.IOException;
import java.lang.reflect.Method;
import java.lang.reflect.Modifier;
import java.nio.file.DirectoryStream;
import java.nio.file.Files;
import java.nio.file.Path;
import java.util.ArrayList;
import java.util.List;
import java.util.Set;
import java.util.TreeSet;

/** What README.md says works as it is written; run from the project's folder. */
public final class ReadmeTest {

    private static final Path README = Path.of("README.md");
    private static final Path MAIN = Path.of("src", "main", "java");
    private static final Path TESTS = Path.of("src", "test", "java");

    public static void main(String[] args) throws IOException, InterruptedException {
        List<String> lines = Files.readAllLines(README);
        callsAreTheFace(lines);
        testsAreThoseThereAre(lines);
        commandsRun(lines);
        Check.end("ReadmeTest");
    }

    /** The blocks between a line of ``` with this word and the next line of ```. */
    private static List<String> blocks(List<String> lines, String word) {
        List<String> found = new ArrayList<>();
        StringBuilder block = null;
        for (String line : lines) {
            if (block == null && line.equals("```" + word)) {
                block = new StringBuilder();
            } else if (block != null && line.equals("```")) {
                found.add(block.toString());
                block = null;
            } else if (block != null) {
                block.append(line).append('\n');
            }
        }
        return found;
    }

    /** The names in the first column of the tables with this head. */
    private static List<String> firstColumn(List<String> lines, String head) {
        List<String> found = new ArrayList<>();
        boolean within = false;
        for (String line : lines) {
            if (line.startsWith("| " + head + " |")) {
                within = true;
            } else if (!line.startsWith("|")) {
                within = false;
            } else if (within && !line.startsWith("|-")) {
                found.addAll(List.of(line.split("\\|")[1].trim().split(", ")));
            }
        }
        return found;
    }

    private static void sameNames(String what, Set<String> due, List<String> told) {
        if (!due.equals(new TreeSet<>(told)) || told.size() != due.size()) {
            Check.fault("README.md names as " + what + " " + told + ", due are " + due);
        }
    }

    private static void callsAreTheFace(List<String> lines) {
        Set<String> due = new TreeSet<>();
        for (Method method : HymnPage.class.getDeclaredMethods()) {
            if (Modifier.isPublic(method.getModifiers())) {
                due.add(method.getName());
            }
        }
        sameNames("calls", due, firstColumn(lines, "calls"));
    }

    private static void testsAreThoseThereAre(List<String> lines) throws IOException {
        Set<String> due = new TreeSet<>();
        try (DirectoryStream<Path> files = Files.newDirectoryStream(TESTS, "*Test.java")) {
            for (Path file : files) {
                due.add(file.getFileName().toString().replace(".java", ""));
            }
        }
        sameNames("tests", due, firstColumn(lines, "test"));
    }

    /** In a copy of the sources, so that nothing is left in the project's folder. */
    private static void commandsRun(List<String> lines) throws IOException, InterruptedException {
        List<String> programs = blocks(lines, "java");
        List<String> commands = blocks(lines, "sh");
        List<String> prints = blocks(lines, "text");
        Check.same("programs", 1, programs.size());
        Check.same("blocks of commands", 2, commands.size());
        Check.same("blocks of prints", 1, prints.size());
        if (programs.size() != 1 || commands.size() != 2 || prints.size() != 1) {
            return;
        }
        Path folder = Files.createTempDirectory("readme");
        try {
            copy(MAIN, folder);
            copy(TESTS, folder);
            Files.createDirectory(folder.resolve("out"));
            Files.writeString(folder.resolve("out/Amen.java"), programs.get(0));
            samePrint("the program", prints.get(0), printed(folder, commands.get(0)));
            samePrint("one test", "TuneTest: all as due\n", printed(folder, commands.get(1)));
        } finally {
            remove(folder);
        }
    }

    private static void copy(Path sources, Path folder) throws IOException {
        Files.createDirectories(folder.resolve(sources));
        try (DirectoryStream<Path> files = Files.newDirectoryStream(sources, "*.java")) {
            for (Path file : files) {
                Files.copy(file, folder.resolve(file));
            }
        }
    }

    private static String printed(Path folder, String commands) throws IOException, InterruptedException {
        Process shell = new ProcessBuilder("sh", "-e", "-c", commands)
                .directory(folder.toFile()).redirectError(ProcessBuilder.Redirect.INHERIT).start();
        String text = new String(shell.getInputStream().readAllBytes());
        Check.same("exit code of " + commands, 0, shell.waitFor());
        return text;
    }

    private static void samePrint(String what, String due, String got) {
        if (!due.equals(got)) {
            Check.fault(what + " of README.md printed " + got + ", due is " + due);
        }
    }

    private static void remove(Path path) throws IOException {
        if (Files.isDirectory(path)) {
            try (DirectoryStream<Path> inside = Files.newDirectoryStream(path)) {
                for (Path each : inside) {
                    remove(each);
                }
            }
        }
        Files.delete(path);
    }
}
