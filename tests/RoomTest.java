import java.lang.management.ManagementFactory;

/** What a run makes stays small: an object is a few thousand bytes, and calls on it make next to nothing. */
public final class RoomTest {
  private static long made() {
    return ((com.sun.management.ThreadMXBean) ManagementFactory.getThreadMXBean()).getCurrentThreadAllocatedBytes();
  }

  private static long dearRun(FigureLeave x) {
    long sum = 0;
    for (int f = 0; f < 10; f++) {
      sum += x.figure(f, f % 6, 60);
    }
    for (int b = 0; b < 6; b++) {
      sum += x.bill(11 * b, b);
      sum += x.trace(b, 2);
      sum += x.note(b, 1, 1, 2);
    }
    String text = "house;figure 1 1 9;bill 1 1;write 1 1;night 60;";
    for (int i = 0; i < text.length(); i++) {
      sum += x.type(text.charAt(i));
    }
    for (int i = 0; i < 12; i++) {
      sum += x.write(i, 99) + x.pay(i % 6) + x.night(1) + x.best(77) + x.first() + x.counts() + x.when(88, 88);
      sum += x.most(0) + x.plan(-1) + x.wanted(0) + x.which(-1) + x.is(1) + x.look(1) + x.two(0, 1);
      sum += x.odds(88, 99, 3) + x.years(i, 60) + x.image(i & 1) + x.from(i & 1) + x.undo() + x.digest();
    }
    return sum + x.read() + x.house();
  }

  public static void main(String[] args) {
    long sum = dearRun(new FigureLeave());
    made();
    long a = made();
    FigureLeave x = new FigureLeave();
    long b = made();
    sum += dearRun(x);
    long c = made();
    System.out.println("an object: " + (b - a) + " bytes, its run: " + (c - b) + " bytes (" + sum + ")");
    if (b - a > 10000 || c - b > 10000) {
      System.out.println("that is too much room");
      System.exit(1);
    }
  }
}
