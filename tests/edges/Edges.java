import java.io.IOException;
import java.nio.file.Files;
import java.nio.file.Path;
import java.util.Arrays;
import java.util.regex.Pattern;

/** Keeps the tests of the document's boundary cases: each begins with the sentence of the document that it is of. */
final class Edges {
  static final int MIN = Integer.MIN_VALUE, MAX = Integer.MAX_VALUE;
  static final int NONE = -1, BAD = -2, NO = -3, FULL = -4;
  static final int PLAIN = 0, PROUD = 1, LAZY = 2, SUNDAY = 3, VAIN = 4, OLD = 5;
  static final int PROMISES = 38;
  /** A test that stands for words of "Terms" and of no promise of its own. */
  static final int TERMS = 0;

  interface Call {
    long on(FigureLeave x);
  }

  interface Ask {
    long on(FigureLeave x, int n);
  }

  interface Made {
    FigureLeave anew();
  }

  /** What may not stand in words of the document that no test begins with. */
  private static final Pattern EDGE =
      Pattern.compile("\\d|\\b(at most|at least|least|most|first|last|none|too|NONE|BAD|NO|FULL|cut)\\b");

  private final String[] sections = new String[PROMISES + 1];
  private final boolean[][] cited = new boolean[PROMISES + 1][];
  private final int[] tests = new int[PROMISES + 1];
  private String sentence = "";
  private int looked = 1;
  private int answers = 0;
  private int wrong = 0;

  Edges(Path file) throws IOException {
    String text = Files.readString(file).replaceAll("```(text)?|=====* \\d", " ").replaceAll("\\s+", " ");
    int at = text.indexOf("## Terms");
    for (int promise = 0; promise <= PROMISES; promise++) {
      int next = text.indexOf(promise < PROMISES ? "## Promise " + (promise + 1) + ":" : "## Not promised");
      String section = at < 0 || next < at ? "" : text.substring(at, next);
      sections[promise] = section.replaceAll("^## (Terms|Promise [^`]*`[^`]*`:)|Ahead of the calls .*", "");
      cited[promise] = new boolean[sections[promise].length()];
      at = next;
    }
  }

  /** Begins a test; the words must stand in the document, in the promise's own section or among its terms. */
  void says(int promise, String words) {
    close();
    sentence = promise + ": " + words;
    tests[promise]++;
    looked = 0;
    boolean own = cite(promise, words);
    boolean term = cite(TERMS, words);
    if (!own && !term) {
      fault("the document does not say so");
    }
  }

  private boolean cite(int section, String words) {
    boolean found = false;
    for (int at = sections[section].indexOf(words); at >= 0; at = sections[section].indexOf(words, at + 1)) {
      Arrays.fill(cited[section], at, at + words.length(), true);
      found = true;
    }
    return found;
  }

  /** The document's words that no test begins with may name no boundary. */
  private void lookForUncited(int section) {
    StringBuilder left = new StringBuilder();
    for (int i = 0; i < cited[section].length; i++) {
      left.append(cited[section][i] ? '|' : sections[section].charAt(i));
    }
    for (String words : left.toString().split("\\|+")) {
      if (EDGE.matcher(words).find()) {
        sentence = section + ": " + words.trim();
        fault("no test is of these words");
      }
    }
  }

  void due(String call, long got, long want) {
    looked++;
    answers++;
    if (got != want) {
      fault(call + " answered " + got + ", due is " + want);
    }
  }

  /** The call is refused: it changes nothing but the one count of STATUS that its reason has. */
  void refused(FigureLeave x, String call, Call c, long answer, int reason) {
    long[] had = seen(x);
    due(call, c.on(x), answer);
    had[BAD - reason]++;
    same(call, x, had);
  }

  /** The call answers so without being refused, and changes nothing. */
  void harmless(FigureLeave x, String call, Call c, long answer) {
    long[] had = seen(x);
    due(call, c.on(x), answer);
    same(call, x, had);
  }

  private void same(String call, FigureLeave x, long[] had) {
    long[] has = seen(x);
    String[] names = {"status(0)", "status(1)", "status(2)", "digest()"};
    for (int i = 0; i < names.length; i++) {
      due(names[i] + " behind " + call, has[i], had[i]);
    }
  }

  private static long[] seen(FigureLeave x) {
    return new long[] {x.status(0), x.status(1), x.status(2), x.digest()};
  }

  /** A number of the call is taken from low to high, and refused as BAD just outside and as far out as an int goes. */
  void bounds(String call, Made made, Ask ask, int low, int high) {
    boundsBy(call, made, ask, low, high, BAD);
  }

  void boundsBy(String call, Made made, Ask ask, int low, int high, int answer) {
    for (int n : new int[] {low, high}) {
      FigureLeave x = made.anew();
      int had = x.status(0);
      long got = ask.on(x, n);
      due(call + " with " + n + " is refused as BAD", got == answer ? 1 : 0, 0);
      due("status(0) behind " + call + " with " + n, x.status(0), had);
    }
    for (int n : new int[] {low - 1, high + 1, MIN, MAX}) {
      refused(made.anew(), call + " with " + n, x -> ask.on(x, n), answer, BAD);
    }
  }

  /** A new object with a text typed. */
  static FigureLeave typed(String text) {
    FigureLeave x = new FigureLeave();
    typeAll(x, text);
    return x;
  }

  static void typeAll(FigureLeave x, String text) {
    for (int i = 0; i < text.length(); i++) {
      x.type(text.charAt(i));
    }
  }

  /** A new object on a day, all figures of it rested. */
  static FigureLeave onDay(int day) {
    FigureLeave x = new FigureLeave();
    sleep(x, day);
    return x;
  }

  static void sleep(FigureLeave x, int nights) {
    for (int left = nights; left > 0; left -= 60) {
      x.night(Math.min(left, 60));
    }
  }

  /** Wears a figure by an even number more, as a plain one; it is then of the kind and strength that are told. */
  static void wearOut(FigureLeave x, int f, int worn, int kind, int strength) {
    x.figure(f, PLAIN, 60);
    for (int i = 0; i < worn / 2; i++) {
      x.write(f, f);
    }
    x.figure(f, kind, strength);
  }

  static void allFigures(FigureLeave x, int kind, int strength) {
    for (int f = 0; f < 10; f++) {
      x.figure(f, kind, strength);
    }
  }

  private void close() {
    if (looked == 0) {
      fault("nothing was looked at");
    }
  }

  private void fault(String what) {
    wrong++;
    System.out.println(sentence + "\n    " + what);
  }

  /** Whether all was as due, each promise having a test. */
  boolean end() {
    close();
    int sum = 0;
    for (int promise = 0; promise <= PROMISES; promise++) {
      sum += tests[promise];
      if (tests[promise] == 0) {
        sentence = "promise " + promise;
        fault("no test is of it");
      }
      lookForUncited(promise);
    }
    System.out.println(sum + " sentences, " + answers + " answers looked at, " + wrong + " wrong");
    return wrong == 0;
  }
}
