/** Promises 8 to 13: write, pay, night, undo, of, about. */
final class DayEdges {
  private final Edges e;

  DayEdges(Edges edges) {
    e = edges;
  }

  void all() {
    writeNumbers();
    writeCost();
    writeNo();
    payBills();
    payEarned();
    payNo();
    nightNumbers();
    nightDay();
    nightsTogether();
    nightAtTheLastDay();
    nightToTheLastDay();
    undoNone();
    undoEight();
    undoBrings();
    undoLeaves();
    undoBehindTold();
    undoBehindRefused();
    ofNumbers();
    ofLeft();
    ofLeftNone();
    ofRests();
    aboutNumbers();
    aboutPaid();
  }

  private void writeNumbers() {
    e.says(8, "v is WRITTEN by x: the COST. BAD; NO: it CAN not be.");
    e.bounds("write(v, 0)", FigureLeave::new, (x, n) -> x.write(n, 0), 0, 99);
    e.bounds("write(0, x)", FigureLeave::new, (x, n) -> x.write(0, n), 0, 99);
    FigureLeave x = new FigureLeave();
    e.refused(x, "write(100, 100)", y -> y.write(100, 100), Edges.BAD, Edges.BAD);
  }

  private void writeCost() {
    e.says(8, "v is WRITTEN by x: the COST.");
    FigureLeave x = new FigureLeave();
    x.figure(9, Edges.VAIN, 60);
    e.due("a line that costs nothing", x.write(9, 9), 0);
    e.due("it may be undone", x.count(7), 1);
    e.due("four signs", x.write(0, 99), 0 + 4 + 5 + 6);
    e.due("worn 9", x.of(9, 2), 15);
    x = Edges.onDay(6);
    x.figure(9, Edges.SUNDAY, 1);
    e.due("four signs on a sunday", x.write(0, 99), 0);
    e.due("worn 9", x.of(9, 2), 0);
  }

  private void writeNo() {
    e.says(8, "NO: it CAN not be.");
    FigureLeave x = new FigureLeave();
    x.figure(7, Edges.PLAIN, 3);
    e.refused(x, "write(77, 77)", y -> y.write(77, 77), Edges.NO, Edges.NO);
    e.due("write(7, 7)", x.write(7, 7), 2);
    e.refused(x, "write(7, 7) again", y -> y.write(7, 7), Edges.NO, Edges.NO);
    e.refused(x, "write(17, 17), whose 1 could be", y -> y.write(17, 17), Edges.NO, Edges.NO);
    e.due("the 1 is not worn", x.of(1, 2), 0);
    e.refused(x, "BAD ahead of NO", y -> y.write(7, 100), Edges.BAD, Edges.BAD);
    e.refused(x, "BAD ahead of NO", y -> y.write(-1, 7), Edges.BAD, Edges.BAD);
    e.due("one may be undone", x.count(7), 1);
  }

  private static FigureLeave billsOf(int... numbers) {
    FigureLeave x = new FigureLeave();
    for (int v : numbers) {
      x.bill(v, 99);
    }
    return x;
  }

  private void payBills() {
    e.says(9, "PAYING: EARNED then. BAD; NO: it is PAID, it CAN not be.");
    e.bounds("pay(b) of one", () -> billsOf(1), FigureLeave::pay, 0, 0);
    e.bounds("pay(b) of five", () -> billsOf(1, 2, 3, 4, 5), FigureLeave::pay, 0, 4);
    e.bounds("pay(b) of six", () -> billsOf(1, 2, 3, 4, 5, 6), FigureLeave::pay, 0, 5);
    FigureLeave x = new FigureLeave();
    e.refused(x, "pay(0) without bills", y -> y.pay(0), Edges.BAD, Edges.BAD);
    x = billsOf(1, 2);
    x.house();
    e.refused(x, "pay(0) behind house()", y -> y.pay(0), Edges.BAD, Edges.BAD);
  }

  private void payEarned() {
    e.says(9, "PAYING: it is written as itself (by v), it is PAID, EARNED is its WORTH more (0 at first).");
    FigureLeave x = new FigureLeave();
    x.bill(0, 0);
    e.due("earned at first", x.count(2), 0);
    e.due("pay(0) without worth", x.pay(0), 0);
    e.due("it is paid", x.count(3), 1);
    e.due("worn 0", x.of(0, 2), 2);
    x = billsOf(1, 2, 3, 4, 5, 99);
    for (int b = 5; b >= 0; b--) {
      e.due("pay(" + b + ")", x.pay(b), 99 * (6 - b));
    }
    e.due("all are paid", x.count(3), 63);
    e.due("the most that can be earned", x.count(2), 594);
    e.due("worn 9", x.of(9, 2), 4);
  }

  private void payNo() {
    e.says(9, "NO: it is PAID, it CAN not be.");
    FigureLeave x = billsOf(7, 7, 17);
    x.figure(7, Edges.PLAIN, 2);
    e.due("pay(0)", x.pay(0), 99);
    e.refused(x, "it is paid, and can not be", y -> y.pay(0), Edges.NO, Edges.NO);
    e.refused(x, "it can not be", y -> y.pay(1), Edges.NO, Edges.NO);
    e.refused(x, "its 1 could be", y -> y.pay(2), Edges.NO, Edges.NO);
    e.due("the 1 is not worn", x.of(1, 2), 0);
    e.refused(x, "BAD", y -> y.pay(3), Edges.BAD, Edges.BAD);
    x.night(1);
    e.refused(x, "it is paid, and could be", y -> y.pay(0), Edges.NO, Edges.NO);
    e.due("pay(1) behind a night", x.pay(1), 198);
    e.due("three may be undone", x.count(7), 3);
  }

  private void nightNumbers() {
    e.says(10, "n NIGHTS (1 .. 60;");
    e.bounds("night(n)", FigureLeave::new, FigureLeave::night, 1, 60);
    FigureLeave x = new FigureLeave();
    e.due("night(1)", x.night(1), 1);
    e.due("night(60)", x.night(60), 61);
    Edges.wearOut(x, 3, 60, Edges.SUNDAY, 60);
    x.night(29);
    e.due("worn behind 29", x.of(3, 2), 2);
    x.night(1);
    e.due("worn behind 30", x.of(3, 2), 0);
    Edges.wearOut(x, 3, 60, Edges.SUNDAY, 60);
    x.night(60);
    e.due("worn behind 60", x.of(3, 2), 0);
  }

  private void nightDay() {
    e.says(10, "the DAY. BAD.");
    FigureLeave x = new FigureLeave();
    int day = 0;
    for (int n : new int[] {1, 2, 59, 60, 30}) {
      day += n;
      e.due("night(" + n + ")", x.night(n), day);
      e.due("count(1)", x.count(1), day);
    }
    e.refused(x, "night(0)", y -> y.night(0), Edges.BAD, Edges.BAD);
    e.refused(x, "night(61)", y -> y.night(61), Edges.BAD, Edges.BAD);
  }

  private void nightsTogether() {
    e.says(10, "together one that may be undone;");
    FigureLeave x = new FigureLeave();
    x.write(77, 77);
    x.night(60);
    e.due("two may be undone", x.count(7), 2);
    e.due("undo()", x.undo(), 0);
    e.due("worn 7", x.of(7, 2), 4);
    e.due("one may be undone", x.count(7), 1);
  }

  private void nightAtTheLastDay() {
    e.says(10, "at DAY 9999 it stays 9999, all the same):");
    FigureLeave x = Edges.onDay(9999);
    x.write(77, 77);
    x.write(77, 77);
    int may = x.count(7);
    e.due("eight may be undone", may, 8);
    e.due("night(1)", x.night(1), 9999);
    e.due("it rests all the same", x.of(7, 2), 5);
    e.due("night(60)", x.night(60), 9999);
    e.due("all rested", x.count(4), 0);
    e.due("undo()", x.undo(), 9999);
    e.due("worn 7", x.of(7, 2), 5);
    e.due("undo()", x.undo(), 9999);
    e.due("worn 7", x.of(7, 2), 8);
    x.figure(7, Edges.OLD, 60);
    e.due("still an odd day", x.wears(7, 0), 5);
    x.night(1);
    e.due("still the same odd day", x.wears(7, 0), 5);
    e.refused(x, "night(0)", y -> y.night(0), Edges.BAD, Edges.BAD);
    e.refused(x, "night(61)", y -> y.night(61), Edges.BAD, Edges.BAD);
  }

  private void nightToTheLastDay() {
    e.says(10, "at DAY 9999 it stays 9999, all the same):");
    FigureLeave x = Edges.onDay(9997);
    x.figure(7, Edges.PLAIN, 60);
    x.write(0, 77);
    x.write(0, 77);
    e.due("night(4) from 9997", x.night(4), 9999);
    e.due("four nights of rest", x.of(7, 2), 4);
    e.due("undo()", x.undo(), 9997);
    e.due("worn 7", x.of(7, 2), 16);
    e.due("night(2)", x.night(2), 9999);
    x = Edges.onDay(9940);
    e.due("night(59)", x.night(59), 9999);
    x.undo();
    e.due("night(60)", x.night(60), 9999);
    x.undo();
    e.due("night(58)", x.night(58), 9998);
  }

  private void undoNone() {
    e.says(11, "UNDO: the DAY then. NO: none may be.");
    FigureLeave x = new FigureLeave();
    e.refused(x, "undo() of a new object", FigureLeave::undo, Edges.NO, Edges.NO);
    x.night(5);
    e.due("undo()", x.undo(), 0);
    e.refused(x, "undo() of none left", FigureLeave::undo, Edges.NO, Edges.NO);
    x.night(5);
    x.house();
    e.refused(x, "undo() behind house()", FigureLeave::undo, Edges.NO, Edges.NO);
    x.night(5);
    Edges.typeAll(x, "house;write 1 1;night 1;");
    x.read();
    e.refused(x, "undo() behind read()", FigureLeave::undo, Edges.NO, Edges.NO);
  }

  private void undoEight() {
    e.says(11, "(8 at most;");
    for (int lines = 7; lines <= 10; lines++) {
      FigureLeave x = new FigureLeave();
      for (int i = 1; i <= lines; i++) {
        x.night(i);
      }
      int may = Math.min(lines, 8);
      e.due("count(7) of " + lines, x.count(7), may);
      for (int i = lines; i > lines - may; i--) {
        e.due("undo()", x.undo(), i * (i - 1) / 2);
        e.due("count(7)", x.count(7), i - 1 - (lines - may));
      }
      e.refused(x, "undo() of none left", FigureLeave::undo, Edges.NO, Edges.NO);
    }
    FigureLeave x = new FigureLeave();
    for (int i = 0; i < 30; i++) {
      x.night(1);
      x.undo();
      x.night(1);
    }
    e.due("count(7)", x.count(7), 8);
    e.due("undo()", x.undo(), 29);
  }

  private void undoBrings() {
    e.says(11, "UNDO: how WORN all are, the DAY, who is PAID, EARNED as ahead of the last LINE, PAYING, NIGHTS");
    FigureLeave x = billsOf(0, 99);
    long[] digests = new long[5];
    digests[0] = x.digest();
    x.write(0, 99);
    digests[1] = x.digest();
    x.pay(1);
    digests[2] = x.digest();
    x.night(60);
    digests[3] = x.digest();
    x.pay(0);
    e.due("undo() of paying", x.undo(), 60);
    e.due("digest()", x.digest(), digests[3]);
    e.due("undo() of nights", x.undo(), 0);
    e.due("digest()", x.digest(), digests[2]);
    e.due("undo() of paying", x.undo(), 0);
    e.due("digest()", x.digest(), digests[1]);
    e.due("paid", x.count(3), 0);
    e.due("earned", x.count(2), 0);
    e.due("undo() of a line", x.undo(), 0);
    e.due("digest()", x.digest(), digests[0]);
    e.due("pay(1) again", x.pay(1), 99);
  }

  private void undoLeaves() {
    e.says(11, "UNDO: how WORN all are, the DAY, who is PAID, EARNED as ahead of the last LINE, PAYING, NIGHTS");
    FigureLeave x = new FigureLeave();
    x.night(1);
    x.trace(1, 1);
    x.note(1, 1, 1, 1);
    x.type('a');
    x.odds(1, 1, 10);
    x.image(0);
    x.pay(0);
    e.due("undo()", x.undo(), 0);
    e.due("traces", x.count(5), 1);
    e.due("notes", x.count(6), 1);
    e.due("bytes", x.count(8), 1);
    e.due("above", x.part(0), 1);
    e.due("status(0)", x.status(0), 1);
    e.due("from(0)", x.from(0), 1);
    e.due("the image's day", x.count(1), 1);
  }

  private void undoBehindTold() {
    e.says(11, "behind a figure told, a BILL that comes none may be)");
    FigureLeave x = new FigureLeave();
    x.night(1);
    x.figure(0, 0, 20);
    e.refused(x, "behind a figure told", FigureLeave::undo, Edges.NO, Edges.NO);
    x.night(1);
    x.bill(0, 0);
    e.refused(x, "behind a bill that comes", FigureLeave::undo, Edges.NO, Edges.NO);
    x.night(1);
    e.due("behind a line of later", x.undo(), 2);
    e.refused(x, "no more than that", FigureLeave::undo, Edges.NO, Edges.NO);
  }

  private void undoBehindRefused() {
    e.says(11, "Refused, changing nothing but STATUS,");
    FigureLeave x = new FigureLeave();
    x.figure(7, Edges.PLAIN, 1);
    x.night(3);
    x.write(7, 7);
    x.write(100, 0);
    x.pay(0);
    x.night(0);
    x.night(61);
    e.due("count(7)", x.count(7), 1);
    e.due("undo()", x.undo(), 0);
    e.due("count(7)", x.count(7), 0);
  }

  private void ofNumbers() {
    e.says(12, "KIND (0), STRENGTH (1), WORN (2), LEFT (3), what it RESTS tonight (4). BAD.");
    e.bounds("of(f, 0)", FigureLeave::new, (x, n) -> x.of(n, 0), 0, 9);
    e.bounds("of(f, 4)", FigureLeave::new, (x, n) -> x.of(n, 4), 0, 9);
    e.bounds("of(0, what)", FigureLeave::new, (x, n) -> x.of(0, n), 0, 4);
    e.bounds("of(9, what)", FigureLeave::new, (x, n) -> x.of(9, n), 0, 4);
    FigureLeave x = new FigureLeave();
    e.refused(x, "of(10, 5)", y -> y.of(10, 5), Edges.BAD, Edges.BAD);
  }

  private void left(int kind, int strength, int day, int want) {
    FigureLeave x = Edges.onDay(day);
    x.figure(4, kind, strength);
    e.harmless(x, "of(4, 3) of kind " + kind + ", strength " + strength + " on " + day, y -> y.of(4, 3), want);
  }

  private void ofLeft() {
    e.says(12, "LEFT of a figure: how often it could be WRITTEN yet, always as SIGN 0 (99 at most).");
    left(Edges.PLAIN, 1, 0, 0);
    left(Edges.PLAIN, 2, 0, 1);
    left(Edges.PLAIN, 3, 0, 1);
    left(Edges.PLAIN, 60, 0, 30);
    left(Edges.PROUD, 60, 0, 30);
    left(Edges.LAZY, 60, 0, 15);
    left(Edges.OLD, 60, 0, 15);
    left(Edges.OLD, 60, 1, 12);
    left(Edges.OLD, 4, 1, 0);
    left(Edges.OLD, 5, 1, 1);
    left(Edges.SUNDAY, 60, 5, 30);
    left(Edges.SUNDAY, 1, 6, 99);
    left(Edges.SUNDAY, 60, 6, 99);
    left(Edges.VAIN, 1, 0, 99);
    left(Edges.VAIN, 60, 9999, 99);
  }

  private void ofLeftNone() {
    e.says(12, "LEFT of a figure: how often it could be WRITTEN yet, always as SIGN 0 (99 at most).");
    FigureLeave x = new FigureLeave();
    Edges.wearOut(x, 4, 6, Edges.PLAIN, 8);
    e.due("once more", x.of(4, 3), 1);
    x.write(4, 4);
    e.due("no more", x.of(4, 3), 0);
    x.figure(4, Edges.PLAIN, 1);
    e.due("worn by more than its strength", x.of(4, 3), 0);
    x.figure(4, Edges.VAIN, 7);
    e.due("so, though it would wear nothing", x.of(4, 3), 0);
    e.due("which can not be written", x.can(4, 4), 0);
    x.figure(4, Edges.VAIN, 8);
    e.due("worn as its strength, wearing nothing", x.of(4, 3), 99);
    e.due("which can be written", x.can(4, 4), 1);
  }

  private void ofRests() {
    e.says(12, "what it RESTS tonight (4).");
    int[] notWorn = {3, 3, 6, 2, 3, 0};
    int[] wornByTwo = {3, 3, 6, 2, 3, 1};
    int[] wornBySixty = {3, 3, 6, 2, 3, 6};
    for (int kind = 0; kind <= 5; kind++) {
      FigureLeave x = new FigureLeave();
      x.figure(4, kind, 60);
      e.due("not worn, kind " + kind, x.of(4, 4), notWorn[kind]);
      Edges.wearOut(x, 4, 2, kind, 60);
      e.due("worn by 2, kind " + kind, x.of(4, 4), wornByTwo[kind]);
      Edges.wearOut(x, 4, 58, kind, 60);
      e.due("worn by 60, kind " + kind, x.of(4, 4), wornBySixty[kind]);
    }
  }

  private void aboutNumbers() {
    e.says(13, "Of a BILL: number (0), WORTH (1), PAID (2; 1, 0). BAD.");
    e.bounds("about(b, 0) of one", () -> billsOf(5), (x, n) -> x.about(n, 0), 0, 0);
    e.bounds("about(b, 2) of six", () -> billsOf(1, 2, 3, 4, 5, 6), (x, n) -> x.about(n, 2), 0, 5);
    e.bounds("about(0, what)", () -> billsOf(5), (x, n) -> x.about(0, n), 0, 2);
    FigureLeave x = new FigureLeave();
    e.refused(x, "about(0, 0) without bills", y -> y.about(0, 0), Edges.BAD, Edges.BAD);
    e.refused(x, "about(0, 3) without bills", y -> y.about(0, 3), Edges.BAD, Edges.BAD);
    x = billsOf(1, 2);
    x.house();
    e.refused(x, "about(1, 0) behind house()", y -> y.about(1, 0), Edges.BAD, Edges.BAD);
  }

  private void aboutPaid() {
    e.says(13, "PAID (2; 1, 0).");
    FigureLeave x = billsOf(1, 2, 3, 4, 5, 6);
    x.pay(0);
    x.pay(5);
    int[] want = {1, 0, 0, 0, 0, 1};
    for (int b = 0; b < 6; b++) {
      e.due("about(" + b + ", 2)", x.about(b, 2), want[b]);
    }
    x.undo();
    e.due("about(5, 2) behind undo()", x.about(5, 2), 0);
  }
}
