import java.io.IOException;
import java.lang.reflect.Method;
import java.lang.reflect.Modifier;
import java.net.URL;
import java.net.URLClassLoader;
import java.nio.file.Files;
import java.nio.file.Path;
import java.util.ArrayList;
import java.util.Comparator;
import java.util.List;
import java.util.Set;
import java.util.TreeSet;
import java.util.concurrent.TimeUnit;
import java.util.regex.Matcher;
import java.util.regex.Pattern;
import java.util.stream.Stream;
import javax.tools.JavaCompiler;
import javax.tools.ToolProvider;

/** README.md holds: its calls answer what it shows, its commands work, and it names the tests there are. */
public final class ReadmeTest {
  private static final Pattern BLOCK = Pattern.compile("```(\\w+)\n(.*?)```", Pattern.DOTALL);
  private static final Pattern SHOWN = Pattern.compile("x\\.(\\w+)\\((.*)\\);\\s+// (-?\\d+)(: \\S.*)?");
  private static final Pattern TEST = Pattern.compile("`(tests/\\w+\\.java)`");
  private static final String ALL_TESTS = ".ci/run";
  private static int wrong = 0;

  private static void fault(String what) {
    wrong++;
    System.out.println("README.md: " + what);
  }

  private static List<String> blocks(String page, String language) {
    List<String> found = new ArrayList<>();
    Matcher m = BLOCK.matcher(page);
    while (m.find()) {
      if (m.group(1).equals(language)) {
        found.add(m.group(2));
      }
    }
    return found;
  }

  /** The page's rows as a program that looks at each answer; a call that shows none is a fault. */
  private static String program(List<String> blocks, Set<String> called) {
    StringBuilder code = new StringBuilder("public final class Shown {\n  private static int wrong = 0;\n"
        + "  private static void due(String call, long got, long want) {\n    if (got != want) {\n      wrong++;\n"
        + "      System.out.println(\"README.md: \" + call + \" answered \" + got + \", not \" + want);\n    }\n  }\n"
        + "  public static int all() {\n");
    for (String row : String.join("", blocks).split("\n")) {
      Matcher m = SHOWN.matcher(row);
      if (m.matches()) {
        String call = "x." + m.group(1) + "(" + m.group(2) + ")";
        code.append("    due(\"").append(call).append("\", ").append(call).append(", ").append(m.group(3)).append("L);\n");
        called.add(m.group(1));
      } else {
        if (row.startsWith("x.")) {
          fault("no answer is shown: " + row);
        }
        Matcher loop = Pattern.compile("x\\.(\\w+)\\(").matcher(row);
        while (loop.find()) {
          called.add(loop.group(1));
        }
        code.append("    ").append(row).append('\n');
      }
    }
    return code.append("    return wrong;\n  }\n}\n").toString();
  }

  private static void calls(String page, Path dir) throws IOException, ReflectiveOperationException {
    Set<String> called = new TreeSet<>();
    Path source = dir.resolve("Shown.java");
    Files.writeString(source, program(blocks(page, "java"), called));
    JavaCompiler javac = ToolProvider.getSystemJavaCompiler();
    String classes = System.getProperty("java.class.path");
    if (javac.run(null, null, null, "--release", "17", "-cp", classes, "-d", dir.toString(), source.toString()) != 0) {
      fault("what it shows does not compile");
      return;
    }
    try (URLClassLoader loader = new URLClassLoader(new URL[] {dir.toUri().toURL()})) {
      wrong += (Integer) loader.loadClass("Shown").getMethod("all").invoke(null);
    }
    for (Method m : FigureLeave.class.getDeclaredMethods()) {
      if (Modifier.isPublic(m.getModifiers()) && !called.contains(m.getName())) {
        fault("does not show " + m.getName());
      }
    }
  }

  /** All tests together can't be run from one of them: RunTest looks at that command. */
  private static void commands(String page) throws IOException, InterruptedException {
    boolean together = false;
    int alone = 0;
    for (String block : blocks(page, "sh")) {
      if (block.trim().equals(ALL_TESTS)) {
        together = Files.isExecutable(Path.of(ALL_TESTS));
        continue;
      }
      alone++;
      Process p = new ProcessBuilder("bash", "-e", "-c", block).redirectErrorStream(true)
          .redirectOutput(ProcessBuilder.Redirect.DISCARD).start();
      if (!p.waitFor(5, TimeUnit.MINUTES) || p.exitValue() != 0) {
        p.destroyForcibly();
        fault("does not work: " + block);
      }
    }
    if (!together || alone == 0) {
      fault("does not say how all tests are run, and one");
    }
  }

  private static void names(String page) throws IOException {
    Set<String> named = new TreeSet<>();
    Matcher m = TEST.matcher(page);
    while (m.find()) {
      named.add(m.group(1));
    }
    Set<String> there = new TreeSet<>();
    try (Stream<Path> files = Files.list(Path.of("tests"))) {
      files.map(Path::toString).filter(s -> s.endsWith(".java")).forEach(there::add);
    }
    if (!named.equals(there)) {
      fault("names the tests " + named + ", there are " + there);
    }
  }

  private static void remove(Path dir) throws IOException {
    try (Stream<Path> all = Files.walk(dir)) {
      for (Path p : all.sorted(Comparator.reverseOrder()).toList()) {
        Files.delete(p);
      }
    }
  }

  public static void main(String[] args) throws Exception {
    String page = Files.readString(Path.of("README.md"));
    Path dir = Files.createTempDirectory("readme");
    calls(page, dir);
    remove(dir);
    commands(page);
    names(page);
    System.out.println(wrong == 0 ? "README.md holds" : wrong + " things of README.md do not hold");
    if (wrong != 0) {
      System.exit(1);
    }
  }
}
