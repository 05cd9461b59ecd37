import java.io.IOException;
import java.lang.reflect.Constructor;
import java.lang.reflect.Field;
import java.lang.reflect.Method;
import java.lang.reflect.Modifier;
import java.nio.file.Files;
import java.nio.file.Path;
import java.util.Arrays;
import java.util.Set;
import java.util.TreeSet;
import java.util.regex.Matcher;
import java.util.regex.Pattern;

/** The document's face, all of it and nothing else, and the rules of LANGUAGE.md that a text can be searched for. */
public final class FaceTest {
  private static final String[] FACE = {
      "int house()", "int figure(int,int,int)", "int bill(int,int)", "int type(int)", "int clear()", "int read()",
      "int write(int,int)", "int pay(int)", "int night(int)", "int undo()", "int of(int,int)", "int about(int,int)",
      "int wears(int,int)", "int cost(int,int)", "int can(int,int)", "int best(int)", "int first()", "int counts()",
      "int when(int,int)", "int most(int)", "int plan(int)", "int wanted(int)", "int trace(int,int)", "int which(int)",
      "int note(int,int,int,int)", "int forget(int)", "int is(int)", "int look(int)", "int two(int,int)",
      "int odds(int,int,int)", "int years(int,int)", "long part(int)", "int image(int)", "int from(int)",
      "int status(int)", "int count(int)", "long digest()"};
  private static final String[] RULED_OUT = {
      "\\b(throw|throws|try|catch|synchronized|assert|protected|volatile|native|record|Object|Thread|Random)\\b",
      "->", "::", "Exact\\b", "System\\.(?!arraycopy)", "import (?!java\\.util\\.Arrays;)", "\\bstatic \\{",
      "hashCode|toString|getClass", "\\bpackage\\b", "while \\(true\\)", "for \\(;;\\)"};
  private static int wrong = 0;

  private static void look(boolean fine, String what) {
    if (!fine) {
      wrong++;
      System.out.println("not as told: " + what);
    }
  }

  private static void face() throws ReflectiveOperationException {
    Class<?> c = FigureLeave.class;
    look(Modifier.isFinal(c.getModifiers()) && Modifier.isPublic(c.getModifiers()), "public and final");
    Set<String> open = new TreeSet<>();
    for (Method m : c.getDeclaredMethods()) {
      if (!Modifier.isPrivate(m.getModifiers())) {
        look(Modifier.isPublic(m.getModifiers()) && !Modifier.isStatic(m.getModifiers()), "public: " + m);
        StringBuilder s = new StringBuilder(m.getReturnType() + " " + m.getName() + "(");
        for (Class<?> p : m.getParameterTypes()) {
          s.append(s.charAt(s.length() - 1) == '(' ? "" : ",").append(p);
        }
        open.add(s.append(")").toString());
      } else {
        look(!namedLikeAPublicOne(m), "named like a public one: " + m);
      }
    }
    look(open.equals(new TreeSet<>(Arrays.asList(FACE))), "the methods " + open);
    Set<String> fields = new TreeSet<>();
    for (Field f : c.getDeclaredFields()) {
      if (!Modifier.isPrivate(f.getModifiers())) {
        fields.add(f.getName() + f.getInt(null));
        look(f.getModifiers() == (Modifier.PUBLIC | Modifier.STATIC | Modifier.FINAL), "a constant: " + f);
      }
    }
    look(fields.equals(new TreeSet<>(Set.of("NONE-1", "BAD-2", "NO-3", "FULL-4"))), "the constants " + fields);
    Constructor<?>[] made = c.getDeclaredConstructors();
    look(made.length == 1 && made[0].getParameterCount() == 0 && Modifier.isPublic(made[0].getModifiers()), "one constructor");
    look(c.getDeclaredClasses().length <= 12, "some twelve classes");
    for (Class<?> inside : c.getDeclaredClasses()) {
      look(Modifier.isStatic(inside.getModifiers()) && !Modifier.isPublic(inside.getModifiers()), "static: " + inside);
      insideOf(inside);
    }
  }

  private static boolean namedLikeAPublicOne(Method m) {
    return Arrays.stream(FACE).anyMatch(s -> s.contains(" " + m.getName() + "("));
  }

  private static void insideOf(Class<?> inside) {
    int fields = 0;
    for (Field f : inside.getDeclaredFields()) {
      if (Modifier.isStatic(f.getModifiers())) {
        look(Modifier.isFinal(f.getModifiers()), "static and not final: " + f);
      } else {
        fields++;
      }
    }
    look(fields <= 20, "some twenty fields: " + inside);
    for (Method m : inside.getDeclaredMethods()) {
      look(!namedLikeAPublicOne(m), "named like a public one: " + m);
      look(m.getParameterCount() <= 7, "seven parameters: " + m);
    }
  }

  private static void source() throws IOException {
    String text = Files.readString(Path.of("src/main/java/FigureLeave.java"));
    look(text.chars().allMatch(ch -> ch < 127 && (ch >= 32 || ch == 10)), "plain signs");
    String bare = text.replaceAll("(?s)/\\*.*?\\*/", "").replaceAll("//[^\n]*", "").replaceAll("\"[^\"]*\"", "\"\"");
    for (String ruled : RULED_OUT) {
      Matcher m = Pattern.compile(ruled).matcher(bare);
      look(!m.find(), "ruled out: " + ruled);
    }
    int began = 0;
    String[] rows = text.split("\n");
    for (int i = 0; i < rows.length; i++) {
      if (rows[i].matches(" {2,4}(private|public) .*\\) \\{")) {
        began = i;
      }
      look(!rows[i].matches(" {2,4}\\}") || i - began <= 60 || rows[i].equals("  }"), "sixty lines, at line " + (i + 1));
      look(rows[i].length() <= 120, "a long row, " + (i + 1));
    }
  }

  public static void main(String[] args) throws Exception {
    face();
    source();
    System.out.println(wrong == 0 ? "the face and the language are as told" : wrong + " things are not as told");
    if (wrong != 0) {
      System.exit(1);
    }
  }
}
