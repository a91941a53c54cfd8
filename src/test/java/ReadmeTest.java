import java.io.File;
import java.io.IOException;
import java.lang.reflect.Method;
import java.lang.reflect.Modifier;
import java.net.URL;
import java.net.URLClassLoader;
import java.nio.file.Files;
import java.nio.file.Path;
import java.util.ArrayList;
import java.util.Comparator;
import java.util.List;
import java.util.Set;
import java.util.TreeSet;
import java.util.concurrent.TimeUnit;
import java.util.regex.Matcher;
import java.util.regex.Pattern;
import java.util.stream.Stream;
import javax.tools.ToolProvider;

/** What README.md says: its program compiles and answers as it says, its commands run, its tests are there. */
public final class ReadmeTest {
    private static final Due DUE = new Due();
    /** A call, or the end of one that goes over several lines, with the answer behind it. */
    private static final Pattern ANSWERED = Pattern.compile("^(.*\\));\\s*// (-?[0-9]+)(: .*)?$");
    private static final Pattern LONE_CALL = Pattern.compile("^ {8}(house|list)\\..*|^ {8}tell\\(.*");

    public static void main(String[] args) throws Exception {
        String page = Files.readString(Path.of("README.md"));
        Path room = Files.createTempDirectory("readme");
        try {
            programAnswersAsItSays(page, room);
            commandsRun(page, room);
            testsAreThere(page);
        } finally {
            remove(room);
        }
        DUE.end();
    }

    private static List<String> blocks(String page, String language) {
        List<String> found = new ArrayList<>();
        Matcher block = Pattern.compile("(?ms)^```" + language + "\n(.*?)^```$").matcher(page);
        while (block.find()) {
            found.add(block.group(1));
        }
        return found;
    }

    // ---- the program

    private static void programAnswersAsItSays(String page, Path room) throws Exception {
        List<String> programs = blocks(page, "java");
        DUE.is("programs in README.md", programs.size(), 1);
        String program = programs.get(0);
        everyCallIsShown(program);
        run(program, Files.createDirectory(room.resolve("plain")));
        long before = answers;
        run(asking(program), Files.createDirectory(room.resolve("asking")));
        DUE.is("answers that were held", answers - before, shown(program).size());
    }

    private static void everyCallIsShown(String program) {
        for (Method method : SkyTrial.class.getDeclaredMethods()) {
            if (Modifier.isPublic(method.getModifiers())) {
                DUE.holds("README.md shows " + method.getName(), program.contains("." + method.getName() + "("));
            }
        }
        DUE.holds("answers are shown", !shown(program).isEmpty());
    }

    private static List<String> shown(String program) {
        return program.lines().filter(line -> ANSWERED.matcher(line).matches()).toList();
    }

    /** The program with its lone calls put into a question: a call of several lines begins at one, ends at another. */
    private static String asking(String program) {
        StringBuilder text = new StringBuilder();
        boolean inside = false;
        boolean inMain = false;
        for (String line : program.lines().toList()) {
            inMain |= line.contains("static void main");
            String asked = line;
            if (inMain && LONE_CALL.matcher(line).matches()) {
                DUE.holds("each call ahead of <" + line.trim() + "> has an answer", !inside);
                asked = "        ReadmeTest.asked(" + line.trim();
                inside = true;
            }
            Matcher answer = ANSWERED.matcher(asked);
            if (inside && answer.matches()) {
                asked = answer.group(1) + ", " + answer.group(2) + "L);";
                inside = false;
            }
            text.append(asked).append('\n');
        }
        DUE.holds("the last call has an answer", !inside);
        return text.toString();
    }

    private static long answers = 0;

    /** What the program asks, in its own order: public, as the program is loaded by another loader. */
    public static void asked(long got, long want) {
        answers++;
        DUE.is("answer " + answers + " of README.md", got, want);
    }

    private static void run(String program, Path room) throws Exception {
        Path file = Files.writeString(room.resolve("Tour.java"), program);
        String path = System.getProperty("java.class.path");
        int code = ToolProvider.getSystemJavaCompiler().run(null, null, null, "-Xlint:all", "-cp", path, "-d",
                room.toString(), file.toString());
        DUE.is("javac of README.md's program", code, 0);
        if (code == 0) {
            try (URLClassLoader loader = new URLClassLoader(new URL[] {room.toUri().toURL()})) {
                loader.loadClass("Tour").getMethod("main", String[].class).invoke(null, (Object) new String[0]);
            }
        }
    }

    // ---- the commands

    /** They are run in a copy, so that nothing is left behind here; .ci/run is what runs this test. */
    private static void commandsRun(String page, Path room) throws Exception {
        Path copy = Files.createDirectories(room.resolve("work/main"));
        copy(Path.of("src"), copy.resolve("src"));
        Files.copy(Path.of("README.md"), copy.resolve("README.md"));
        if (Files.exists(Path.of("../shared"))) {
            Files.createSymbolicLink(room.resolve("work/shared"), Path.of("../shared").toRealPath());
        }
        List<String> commands = String.join("", blocks(page, "sh")).lines().toList();
        DUE.holds("README.md says to run .ci/run", commands.contains(".ci/run"));
        DUE.holds(".ci/run can be run", Files.isExecutable(Path.of(".ci/run")));
        for (String command : commands) {
            if (!command.equals(".ci/run")) {
                DUE.is(command, exitCode(command, copy.toFile(), room.resolve("printed").toFile()), 0);
            }
        }
    }

    private static int exitCode(String command, File where, File printed) throws Exception {
        ProcessBuilder builder = new ProcessBuilder("sh", "-c", command).directory(where).redirectErrorStream(true);
        Process process = builder.redirectOutput(printed).start();
        if (!process.waitFor(5, TimeUnit.MINUTES)) {
            process.destroyForcibly();
            return -1;
        }
        if (process.exitValue() != 0) {
            System.out.println(Files.readString(printed.toPath()));
        }
        return process.exitValue();
    }

    private static void copy(Path from, Path to) throws IOException {
        for (Path one : walk(from)) {
            Files.copy(one, to.resolve(from.relativize(one).toString()));
        }
    }

    private static void remove(Path room) throws IOException {
        List<Path> all = new ArrayList<>(walk(room));
        all.sort(Comparator.reverseOrder());
        for (Path one : all) {
            Files.delete(one);
        }
    }

    private static List<Path> walk(Path from) throws IOException {
        try (Stream<Path> all = Files.walk(from)) {
            return all.toList();
        }
    }

    // ---- the tests

    private static void testsAreThere(String page) throws IOException {
        Set<String> told = new TreeSet<>();
        Matcher name = Pattern.compile("`(\\w+)`").matcher(page.substring(page.indexOf("## Tests")));
        while (name.find()) {
            if (!name.group(1).equals("javac") && !name.group(1).equals("java")) {
                told.add(name.group(1));
            }
        }
        for (String one : told) {
            DUE.holds("README.md's " + one + " is there", Files.exists(Path.of("src/test/java/" + one + ".java")));
        }
        for (Path file : walk(Path.of("src/test/java"))) {
            String test = file.getFileName().toString().replace(".java", "");
            DUE.holds("README.md names " + test, !test.endsWith("Test") || told.contains(test));
        }
    }
}
