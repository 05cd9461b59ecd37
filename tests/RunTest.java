import java.io.IOException;
import java.nio.file.Files;
import java.nio.file.Path;
import java.util.Comparator;
import java.util.concurrent.TimeUnit;
import java.util.stream.Stream;

/** What .ci/run says of small projects: it passes if every test of both places does, and fails otherwise. */
public final class RunTest {
  private static final String CLASS = "public final class FigureLeave { public int house() { return 0; } }";
  private static final String GOOD = body("new FigureLeave().house() != 0");
  private static final String WRONG = body("new FigureLeave().house() == 0");
  private static final String NO_JAVA = "public final class T { int }";
  private static int wrong = 0;

  private static String body(String fails) {
    return "public final class T { public static void main(String[] a) { if (" + fails + ") System.exit(1); } }";
  }

  private static void put(Path file, String text) throws IOException {
    if (text != null) {
      Files.createDirectories(file.getParent());
      Files.writeString(file, text);
    }
  }

  /** A project of this class, with a test of its own and one of ../shared (null: none); run from elsewhere. */
  private static void due(String what, boolean passes, String source, String own, String shared)
      throws IOException, InterruptedException {
    Path place = Files.createTempDirectory("run");
    put(place.resolve("main/src/main/java/FigureLeave.java"), source);
    put(place.resolve("main/tests/OwnTest.java"), own == null ? null : own.replace("class T", "class OwnTest"));
    put(place.resolve("shared/tests/SharedTest.java"), shared == null ? null : shared.replace("class T", "class SharedTest"));
    Path script = place.resolve("main/.ci/run");
    put(script, Files.readString(Path.of(".ci/run")));
    long files = howMany(place);
    Process p = new ProcessBuilder("bash", script.toString()).directory(place.toFile()).redirectErrorStream(true)
        .redirectOutput(ProcessBuilder.Redirect.DISCARD).start();
    boolean ended = p.waitFor(2, TimeUnit.MINUTES);
    if (!ended || (p.exitValue() == 0) != passes) {
      wrong++;
      p.destroyForcibly();
      System.out.println(".ci/run should " + (passes ? "pass: " : "fail: ") + what);
    }
    if (howMany(place) != files) {
      wrong++;
      System.out.println(".ci/run leaves files behind: " + what);
    }
    remove(place);
  }

  private static long howMany(Path dir) throws IOException {
    try (Stream<Path> all = Files.walk(dir)) {
      return all.count();
    }
  }

  private static void remove(Path dir) throws IOException {
    try (Stream<Path> all = Files.walk(dir)) {
      for (Path p : all.sorted(Comparator.reverseOrder()).toList()) {
        Files.delete(p);
      }
    }
  }

  public static void main(String[] args) throws Exception {
    due("both tests pass", true, CLASS, GOOD, GOOD);
    due("the project's test fails", false, CLASS, WRONG, GOOD);
    due("the shared test fails", false, CLASS, GOOD, WRONG);
    due("a test does not compile", false, CLASS, GOOD, NO_JAVA);
    due("the class does not compile", false, "public final class FigureLeave { int }", GOOD, GOOD);
    due("the class compiles with a warning", false,
        "public final class FigureLeave { public int house() { return (int) 0; } }", GOOD, GOOD);
    due("there is no class", false, null, GOOD, GOOD);
    due("there is no test", false, CLASS, null, null);
    System.out.println(wrong == 0 ? ".ci/run is as told" : wrong + " things of .ci/run are not as told");
    if (wrong != 0) {
      System.exit(1);
    }
  }
}
