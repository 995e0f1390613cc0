import java.io.IOException;
import java.io.PrintStream;
import java.nio.file.Files;
import java.nio.file.Path;
import java.util.ArrayList;
import java.util.LinkedHashSet;
import java.util.List;
import java.util.Set;
import java.util.concurrent.ExecutorService;
import java.util.concurrent.Executors;
import java.util.concurrent.TimeUnit;
import java.util.regex.Matcher;
import java.util.regex.Pattern;
import javax.tools.JavaCompiler;
import javax.tools.ToolProvider;

/**
 * Whether the tests would fail if a sentence were broken: bends TreeStream.java at one place at a time, and tells
 * each bent form that the tests by hand still pass. By hand, not in .ci/run: all of it takes some fifteen minutes.
 * Arguments: the folder of the compiled tests, then the first and the last line to bend.
 */
final class Mutants {
    private static final Path SOURCE = Path.of("src/main/java/TreeStream.java");
    private static final String[][] TESTS = {{"TextsTest"}, {"ReadingsTest"}, {"DocumentsTest"}, {"MachinesTest"}, {"FaultsTest", "0"}};
    private static final String[][] SWAPS = {{" < ", " <= "}, {" < ", " >= "}, {" <= ", " < "}, {" > ", " >= "}, {" > ", " <= "},
        {" >= ", " > "}, {" == ", " != "}, {" != ", " == "}, {" && ", " || "}, {" || ", " && "}, {" + ", " - "}, {" - ", " + "},
        {" * ", " + "}, {"++", "--"}, {"--", "++"}, {" += ", " -= "}, {" -= ", " += "}, {"true", "false"}, {"false", "true"},
        {"return NONE", "return WRONG"}, {"return NONE", "return 0"}, {"return WRONG", "return NONE"}, {"Math.max", "Math.min"}};
    private static final Pattern NUMBER = Pattern.compile("(?<![A-Za-z_0-9\"'])\\d+(?![A-Za-z_0-9\"'])");
    private static final Pattern CONDITION = Pattern.compile("(.*if) \\((.*)\\) \\{");
    private static final int SECONDS = 30;

    private final List<String> lines = Files.readAllLines(SOURCE);
    private final String tests;
    private final PrintStream out = System.out;

    private Mutants(String tests) throws IOException {
        this.tests = tests;
    }

    public static void main(String[] args) throws Exception {
        Mutants mutants = new Mutants(args[0]);
        int from = args.length > 1 ? Integer.parseInt(args[1]) : 1;
        int to = args.length > 2 ? Integer.parseInt(args[2]) : mutants.lines.size();
        ExecutorService workers = Executors.newFixedThreadPool(Runtime.getRuntime().availableProcessors());
        for (int i = from - 1; i < Math.min(to, mutants.lines.size()); i++) {
            for (String bent : bends(mutants.lines.get(i))) {
                int line = i;
                workers.submit(() -> mutants.tryOut(line, bent));
            }
        }
        workers.shutdown();
        workers.awaitTermination(1, TimeUnit.DAYS);
    }

    /** The forms of a line of code with one bend. */
    private static Set<String> bends(String line) {
        Set<String> bent = new LinkedHashSet<>();
        String code = line.trim();
        if (code.startsWith("/") || code.startsWith("*") || code.startsWith("import")) {
            return bent;
        }
        for (String[] swap : SWAPS) {
            for (int i = line.indexOf(swap[0]); i >= 0; i = line.indexOf(swap[0], i + 1)) {
                bent.add(line.substring(0, i) + swap[1] + line.substring(i + swap[0].length()));
            }
        }
        Matcher number = NUMBER.matcher(line);
        while (number.find()) {
            for (int by = -1; by <= 1; by += 2) {
                bent.add(line.substring(0, number.start()) + (Integer.parseInt(number.group()) + by) + line.substring(number.end()));
            }
        }
        Matcher condition = CONDITION.matcher(line);
        if (condition.matches()) {
            bent.add(condition.group(1) + " (true || (" + condition.group(2) + ")) {");
            bent.add(condition.group(1) + " (false && (" + condition.group(2) + ")) {");
        }
        if (code.endsWith(";") && !code.matches("(private|public|return|int|long|boolean|Machine)\\b.*")) {
            bent.add("");
        }
        return bent;
    }

    private void tryOut(int line, String bent) {
        try {
            Path folder = Files.createTempDirectory("mutant");
            List<String> code = new ArrayList<>(lines);
            code.set(line, bent);
            Files.write(folder.resolve("TreeStream.java"), code);
            if (compiles(folder) && passes(folder)) {
                out.println((line + 1) + ": " + lines.get(line).trim() + "  =>  " + bent.trim());
            }
            try (var files = Files.list(folder)) {
                for (Path file : (Iterable<Path>) files::iterator) {
                    Files.delete(file);
                }
            }
            Files.delete(folder);
        } catch (IOException | InterruptedException failure) {
            out.println((line + 1) + ": not tried out, " + failure);
        }
    }

    private static boolean compiles(Path folder) {
        JavaCompiler compiler = ToolProvider.getSystemJavaCompiler();
        PrintStream silent = new PrintStream(PrintStream.nullOutputStream());
        return compiler.run(null, silent, silent, "-d", folder.toString(), folder.resolve("TreeStream.java").toString()) == 0;
    }

    private boolean passes(Path folder) throws IOException, InterruptedException {
        for (String[] test : TESTS) {
            List<String> command = new ArrayList<>(List.of("java", "-XX:TieredStopAtLevel=1", "-cp", folder + ":" + tests));
            command.addAll(List.of(test));
            Process run = new ProcessBuilder(command).redirectErrorStream(true).redirectOutput(ProcessBuilder.Redirect.DISCARD).start();
            if (!run.waitFor(SECONDS, TimeUnit.SECONDS)) {
                run.destroyForcibly();
                return false;
            }
            if (run.exitValue() != 0) {
                return false;
            }
        }
        return true;
    }
}
