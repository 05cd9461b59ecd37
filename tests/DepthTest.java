import java.io.IOException;
import java.io.PrintWriter;
import java.io.StringWriter;
import java.nio.file.Files;
import java.nio.file.Path;
import java.util.ArrayList;
import java.util.HashMap;
import java.util.List;
import java.util.Map;
import java.util.Set;
import java.util.TreeMap;
import java.util.TreeSet;
import java.util.regex.Matcher;
import java.util.regex.Pattern;
import java.util.spi.ToolProvider;
import java.util.stream.Stream;

/** Calls go at most eight deep, the library's own among them, and none comes back to itself (LANGUAGE.md, 8 and 11). */
public final class DepthTest {
  private static final int DEEPEST = 8;
  private static final Pattern METHOD = Pattern.compile("  [\\w $.\\[\\]]*?([\\w$]+)\\([^)]*\\);");
  private static final Pattern CALL = Pattern.compile("invoke\\w+ .*// Method (?:([\\w/$]+)\\.)?\"?(<?[\\w$]+>?)\"?:");
  private static final Map<String, Set<String>> CALLS = new TreeMap<>();
  private static final Map<String, List<String>> LONGEST = new HashMap<>();
  private static int wrong = 0;

  private static void readClass(Path file) {
    StringWriter out = new StringWriter();
    PrintWriter printer = new PrintWriter(out);
    ToolProvider.findFirst("javap").orElseThrow().run(printer, printer, "-p", "-c", file.toString());
    String owner = file.getFileName().toString().replace(".class", "");
    String method = "";
    for (String row : out.toString().split("\n")) {
      Matcher began = METHOD.matcher(row);
      Matcher call = CALL.matcher(row);
      if (began.matches()) {
        method = owner + "." + (began.group(1).equals(owner) ? "<init>" : began.group(1));
        CALLS.putIfAbsent(method, new TreeSet<>());
      } else if (call.find()) {
        CALLS.get(method).add((call.group(1) == null ? owner : call.group(1)) + "." + call.group(2));
      }
    }
  }

  /** The longest chain of calls from a method on, itself the first. */
  private static List<String> chain(String method, List<String> open) {
    if (open.contains(method)) {
      wrong++;
      System.out.println("comes back to itself: " + method + " by " + open);
      return List.of();
    }
    if (!LONGEST.containsKey(method)) {
      List<String> behind = new ArrayList<>(open);
      behind.add(method);
      List<String> longest = List.of();
      for (String called : CALLS.getOrDefault(method, Set.of())) {
        List<String> one = chain(called, behind);
        longest = one.size() > longest.size() ? one : longest;
      }
      List<String> all = new ArrayList<>(List.of(method));
      all.addAll(longest);
      LONGEST.put(method, all);
    }
    return LONGEST.get(method);
  }

  public static void main(String[] args) throws IOException {
    Path classes = Path.of(System.getProperty("java.class.path").split(":")[0]);
    try (Stream<Path> files = Files.list(classes)) {
      files.filter(p -> p.getFileName().toString().matches("FigureLeave(\\$\\w+)?\\.class")).forEach(DepthTest::readClass);
    }
    List<String> deepest = List.of();
    for (String method : CALLS.keySet()) {
      List<String> one = chain(method, List.of());
      deepest = one.size() > deepest.size() ? one : deepest;
      if (one.size() > DEEPEST) {
        wrong++;
        System.out.println("too deep: " + one);
      }
    }
    if (CALLS.size() < 38 || deepest.size() < 2) {
      wrong++;
      System.out.println("the calls of the class were not found");
    }
    System.out.println(CALLS.size() + " methods, calls go " + deepest.size() + " deep, " + wrong + " wrong");
    if (wrong != 0) {
      System.exit(1);
    }
  }
}
