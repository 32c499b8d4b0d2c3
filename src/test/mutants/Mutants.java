import java.io.IOException;
import java.nio.file.Files;
import java.nio.file.Path;
import java.util.ArrayList;
import java.util.List;
import java.util.TreeMap;
import java.util.concurrent.ExecutionException;
import java.util.concurrent.ExecutorService;
import java.util.concurrent.Executors;
import java.util.concurrent.Future;
import java.util.concurrent.TimeUnit;
import java.util.stream.Stream;
import javax.tools.ToolProvider;

/** Breaks the class in one place at a time, and looks whether BoundaryTest tells, and by which sentences. */
public final class Mutants {
    private static final Path CLASS = Path.of("src/main/java/WaitPlaces.java");
    private static final Path TESTS = Path.of("src/test/java");
    private static final Path LIST = Path.of("src/test/mutants/mutants.txt");
    private static final int SECONDS = 120;

    private record Mutant(String name, String find, String replace) {
    }

    private record Outcome(Mutant mutant, String trouble, List<String> broken) {
    }

    private Mutants() {
    }

    public static void main(String[] args) throws IOException, InterruptedException, ExecutionException {
        String source = Files.readString(CLASS);
        ExecutorService pool = Executors.newFixedThreadPool(Math.max(1, Runtime.getRuntime().availableProcessors()));
        List<Future<Outcome>> running = new ArrayList<>();
        for (Mutant mutant : list()) running.add(pool.submit(() -> tryOut(source, mutant)));
        TreeMap<String, List<String>> bySentence = new TreeMap<>();
        for (String sentence : sentences()) bySentence.put(sentence, new ArrayList<>());
        int trouble = 0;
        for (Future<Outcome> future : running) {
            Outcome outcome = future.get();
            if (!outcome.trouble().isEmpty()) {
                trouble++;
                System.out.println(outcome.trouble() + ": " + outcome.mutant().name());
            }
            for (String sentence : outcome.broken()) {
                bySentence.computeIfAbsent(sentence, s -> new ArrayList<>()).add(outcome.mutant().name());
            }
        }
        pool.shutdown();
        for (String line : run(withFreeAnswers(source))) {
            if (!line.startsWith("BROKEN: ") && !line.startsWith("TROUBLE: ")) continue;
            trouble++;
            System.out.println("asked of an object behind its 512th call: " + line);
        }
        for (String sentence : bySentence.keySet()) {
            List<String> by = bySentence.get(sentence);
            if (by.isEmpty()) trouble++;
            if (by.isEmpty() || args.length > 0) System.out.println(sentence + "\n    broken by " + (by.isEmpty() ? "no mutant" : by));
        }
        System.out.println(running.size() + " mutants, " + bySentence.size() + " sentences, " + trouble + " troubles");
        if (trouble > 0) System.exit(1);
    }

    /** Blocks of a name behind '#', lines to find behind '-', lines that take their place behind '+'. */
    private static List<Mutant> list() throws IOException {
        List<Mutant> all = new ArrayList<>();
        String name = "";
        String find = "";
        String replace = "";
        List<String> lines = new ArrayList<>(Files.readAllLines(LIST));
        lines.add("#");
        for (String line : lines) {
            if (line.startsWith("#")) {
                if (!find.isEmpty()) all.add(new Mutant(name, find, replace));
                name = line.substring(1).trim();
                find = "";
                replace = "";
            } else if (line.startsWith("-")) {
                find += (find.isEmpty() ? "" : "\n") + line.substring(1);
            } else if (line.startsWith("+")) {
                replace += (replace.isEmpty() ? "" : "\n") + line.substring(1);
            }
        }
        return all;
    }

    /** What an object answers behind its 512th call is free: a class that answers odd numbers then is none that tests may tell of. */
    private static String withFreeAnswers(String source) {
        String counter = "    private int callsSoFar = 0;\n";
        String guard = "        if (++callsSoFar > 512) return -77 - callsSoFar;\n";
        String counting = source.replaceAll("(?m)^    public int \\w+\\(.*\\) \\{\\n", "$0" + guard);
        return counting.replaceFirst("(?m)^public final class .*\\n", "$0" + counter);
    }

    private static List<String> sentences() throws IOException {
        List<String> all = new ArrayList<>();
        for (String line : run(Files.readString(CLASS), "names")) {
            if (line.startsWith("SENTENCE: ")) all.add(line.substring("SENTENCE: ".length()));
        }
        return all;
    }

    private static Outcome tryOut(String source, Mutant mutant) throws IOException {
        int at = source.indexOf(mutant.find());
        if (at < 0) return new Outcome(mutant, "the class has no such lines", List.of());
        if (source.indexOf(mutant.find(), at + 1) >= 0) return new Outcome(mutant, "the class has such lines twice", List.of());
        List<String> broken = new ArrayList<>();
        String end = "";
        for (String line : run(source.replace(mutant.find(), mutant.replace()))) {
            if (line.startsWith("BROKEN: ")) broken.add(line.substring("BROKEN: ".length(), line.lastIndexOf(',')));
            if (line.startsWith("TROUBLE: ")) end = line;
        }
        return new Outcome(mutant, !end.isEmpty() ? end : broken.isEmpty() ? "nothing tells" : "", broken);
    }

    /** The tests are compiled anew with each mutant: in one process that costs little. */
    private static List<String> run(String source, String... words) throws IOException {
        Path out = Files.createTempDirectory("mutant");
        try {
            Path file = out.resolve("WaitPlaces.java");
            Files.writeString(file, source);
            List<String> compile = new ArrayList<>(List.of("-nowarn", "-d", out.toString(), file.toString()));
            try (Stream<Path> tests = Files.list(TESTS)) {
                tests.forEach(test -> compile.add(test.toString()));
            }
            if (ToolProvider.getSystemJavaCompiler().run(null, null, null, compile.toArray(new String[0])) != 0) {
                return List.of("TROUBLE: does not compile");
            }
            Path text = out.resolve("out.txt");
            List<String> test = new ArrayList<>(List.of("java", "-XX:TieredStopAtLevel=1", "-cp", out.toString(), "BoundaryTest"));
            test.addAll(List.of(words));
            return ends(test, text) ? Files.readAllLines(text) : List.of("TROUBLE: does not end");
        } finally {
            remove(out);
        }
    }

    private static boolean ends(List<String> command, Path text) throws IOException {
        Process process = new ProcessBuilder(command).redirectErrorStream(true).redirectOutput(text.toFile()).start();
        try {
            if (process.waitFor(SECONDS, TimeUnit.SECONDS)) return true;
        } catch (InterruptedException stopped) {
            Thread.currentThread().interrupt();
        }
        process.destroyForcibly();
        return false;
    }

    private static void remove(Path out) throws IOException {
        try (Stream<Path> files = Files.list(out)) {
            for (Path file : files.toList()) Files.delete(file);
        }
        Files.delete(out);
    }
}
