/** Promises 24 to 32: trace, which, note, forget, is, look, two, odds, years. */
final class WrittenEdges {
  private static final int WHICH_BAD = -10, NOT_SO_MANY = -5;
  private final Edges e;

  WrittenEdges(Edges edges) {
    e = edges;
  }

  void all() {
    traceNumbers();
    traceFull();
    whichNumbers();
    whichAll();
    whichNone();
    whichRising();
    whichToday();
    noteNumbers();
    noteFull();
    forgetNumbers();
    forgetAll();
    isNumbers();
    isAllAndNone();
    isAtTheEdges();
    lookNumbers();
    lookAnswers();
    lookNone();
    twoNumbers();
    twoNo();
    twoHalf();
    twoTogether();
    twoRest();
    twoUnlike();
    oddsNumbers();
    oddsNeverAndAlways();
    oddsEachApart();
    yearsNumbers();
    yearsWrong();
    yearsFirst();
    yearsLong();
    yearsNights();
  }

  private void traceNumbers() {
    e.says(24, "TRACES 0 .. 5, as they come: by a LINE written today a figure became x (0 .. 40) more WORN.");
    e.bounds("trace(f, 0)", FigureLeave::new, (x, n) -> x.trace(n, 0), 0, 9);
    e.bounds("trace(0, x)", FigureLeave::new, (x, n) -> x.trace(0, n), 0, 40);
    e.refused(new FigureLeave(), "trace(10, 41)", x -> x.trace(10, 41), Edges.BAD, Edges.BAD);
  }

  private void traceFull() {
    e.says(24, "A TRACE: how many there are. BAD; FULL: 6.");
    FigureLeave x = new FigureLeave();
    x.night(1);
    for (int i = 1; i <= 6; i++) {
      e.due("trace", x.trace(9, 40), i);
      e.due("count(5)", x.count(5), i);
    }
    e.refused(x, "a 7th trace", y -> y.trace(1, 1), Edges.FULL, Edges.FULL);
    e.refused(x, "BAD ahead of FULL, the figure", y -> y.trace(-1, 1), Edges.BAD, Edges.BAD);
    e.refused(x, "BAD ahead of FULL, the x", y -> y.trace(1, 41), Edges.BAD, Edges.BAD);
    e.due("what may be undone stays", x.count(7), 1);
    x.forget(0);
    e.due("the first again", x.trace(1, 1), 1);
  }

  private void whichNumbers() {
    e.says(25, "WHICH: how many (k = NONE), the k-th. -5: not so many. BAD: -10.");
    FigureLeave x = new FigureLeave();
    e.refused(x, "which(-2)", y -> y.which(-2), WHICH_BAD, Edges.BAD);
    e.refused(x, "which(MIN)", y -> y.which(Edges.MIN), WHICH_BAD, Edges.BAD);
    e.harmless(x, "which(-1)", y -> y.which(-1), 10000);
    e.harmless(x, "which(0)", y -> y.which(0), 0);
  }

  private void whichAll() {
    e.says(25, "-5: not so many.");
    FigureLeave x = new FigureLeave();
    e.harmless(x, "the last of all", y -> y.which(9999), 9999);
    e.harmless(x, "one more", y -> y.which(10000), NOT_SO_MANY);
    e.harmless(x, "the greatest int", y -> y.which(Edges.MAX), NOT_SO_MANY);
    x.trace(9, 8);
    e.harmless(x, "four nines", y -> y.which(Edges.NONE), 1);
    e.harmless(x, "99 less 99", y -> y.which(0), 99);
    e.harmless(x, "no second", y -> y.which(1), NOT_SO_MANY);
  }

  private void whichNone() {
    e.says(25, "WHICH: LINES (100 v and x) of which all TRACES are so");
    FigureLeave x = new FigureLeave();
    x.trace(9, 10);
    e.harmless(x, "five nines", y -> y.which(Edges.NONE), 0);
    e.harmless(x, "the first of none", y -> y.which(0), NOT_SO_MANY);
    x.forget(0);
    x.trace(0, 40);
    e.harmless(x, "the greatest trace", y -> y.which(Edges.NONE), 0);
    x.forget(0);
    for (int f = 0; f < 5; f++) {
      x.trace(f, 0);
    }
    x.trace(5, 2);
    e.harmless(x, "six traces: of 5 .. 9, with one 5, 1 is 6 less 5", y -> y.which(0), 106);
    x.forget(0);
    x.trace(5, 2);
    x.trace(5, 4);
    e.harmless(x, "not both", y -> y.which(Edges.NONE), 0);
  }

  private void whichRising() {
    e.says(25, "how many; the k-th (rising).");
    FigureLeave x = new FigureLeave();
    x.trace(9, 6);
    int many = x.which(Edges.NONE);
    int last = -1;
    for (int k = 0; k < many; k++) {
      int name = x.which(k);
      e.due("which(" + k + ") is above the one ahead", name > last ? 1 : 0, 1);
      last = name;
    }
    e.due("the last by its place", x.which(many), NOT_SO_MANY);
    // three nines are 99 less 9, 19 .. 89, 90, 91 .. 98
    e.due("how many", many, 18);
    e.due("the first, 1 is 99 less 98", x.which(0), 199);
    e.due("the last, 90 is 99 less 9", last, 9099);
  }

  private void whichToday() {
    e.says(25, "(STRENGTH does not matter)");
    FigureLeave x = new FigureLeave();
    Edges.wearOut(x, 9, 60, Edges.PLAIN, 1);
    x.trace(9, 8);
    e.harmless(x, "99 less 99, though it can not be", y -> y.which(0), 99);
    x.figure(9, Edges.SUNDAY, 1);
    x.night(6);
    e.harmless(x, "not on a sunday", y -> y.which(Edges.NONE), 0);
    x.forget(0);
    x.trace(9, 0);
    e.harmless(x, "all of them on a sunday", y -> y.which(Edges.NONE), 10000);
  }

  private void noteNumbers() {
    e.says(26, "NOTES 0 .. 5, as they come: a figure became x (0 .. 20) more WORN as SIGN k (0 .. 3) on DAY d (0 .. 99).");
    e.bounds("note(f, 0, 0, 0)", FigureLeave::new, (x, n) -> x.note(n, 0, 0, 0), 0, 9);
    e.bounds("note(0, k, 0, 0)", FigureLeave::new, (x, n) -> x.note(0, n, 0, 0), 0, 3);
    e.bounds("note(0, 0, d, 0)", FigureLeave::new, (x, n) -> x.note(0, 0, n, 0), 0, 99);
    e.bounds("note(0, 0, 0, x)", FigureLeave::new, (x, n) -> x.note(0, 0, 0, n), 0, 20);
    e.refused(new FigureLeave(), "note(10, 4, 100, 21)", x -> x.note(10, 4, 100, 21), Edges.BAD, Edges.BAD);
  }

  private void noteFull() {
    e.says(26, "A NOTE: how many there are. BAD; FULL: 6.");
    FigureLeave x = new FigureLeave();
    x.night(1);
    for (int i = 1; i <= 6; i++) {
      e.due("note", x.note(9, 3, 99, 20), i);
      e.due("count(6)", x.count(6), i);
    }
    e.refused(x, "a 7th note", y -> y.note(1, 1, 1, 1), Edges.FULL, Edges.FULL);
    e.refused(x, "BAD ahead of FULL, the figure", y -> y.note(10, 1, 1, 1), Edges.BAD, Edges.BAD);
    e.refused(x, "BAD ahead of FULL, the sign", y -> y.note(1, 4, 1, 1), Edges.BAD, Edges.BAD);
    e.refused(x, "BAD ahead of FULL, the day", y -> y.note(1, 1, 100, 1), Edges.BAD, Edges.BAD);
    e.refused(x, "BAD ahead of FULL, the x", y -> y.note(1, 1, 1, 21), Edges.BAD, Edges.BAD);
    e.due("what may be undone stays", x.count(7), 1);
    x.forget(1);
    e.due("the first again", x.note(1, 1, 1, 1), 1);
  }

  private void forgetNumbers() {
    e.says(27, "No TRACES (0), NOTES (1): how many there were. BAD.");
    e.bounds("forget(what)", FigureLeave::new, FigureLeave::forget, 0, 1);
  }

  private void forgetAll() {
    e.says(27, "No TRACES (0), NOTES (1): how many there were.");
    FigureLeave x = new FigureLeave();
    e.harmless(x, "no traces", y -> y.forget(0), 0);
    e.harmless(x, "no notes", y -> y.forget(1), 0);
    for (int i = 0; i < 6; i++) {
      x.trace(i, i);
      x.note(i, 1, 1, 1);
    }
    e.due("six traces", x.forget(0), 6);
    e.due("notes stay", x.count(6), 6);
    e.due("none left", x.forget(0), 0);
    x.trace(1, 1);
    e.due("six notes", x.forget(1), 6);
    e.due("traces stay", x.count(5), 1);
    e.due("none left", x.forget(1), 0);
    e.due("is(1) of none", x.is(1), 63);
  }

  private void isNumbers() {
    e.says(28, "IS, as bits. BAD.");
    e.bounds("is(f)", FigureLeave::new, FigureLeave::is, 0, 9);
  }

  private void isAllAndNone() {
    e.says(28, "IS: KINDS (bits) by which all NOTES of it are so.");
    FigureLeave x = new FigureLeave();
    e.harmless(x, "no notes: all", y -> y.is(0), 63);
    x.note(0, 0, 0, 20);
    e.harmless(x, "the greatest note: none", y -> y.is(0), 0);
    e.harmless(x, "of another: all", y -> y.is(9), 63);
    x.figure(9, Edges.LAZY, 1);
    e.harmless(x, "what it is told to be does not matter", y -> y.is(9), 63);
    for (int i = 0; i < 4; i++) {
      x.note(9, i, 13, i == 0 ? 2 : 2 + i);
    }
    e.harmless(x, "proud by all of them", y -> y.is(9), 2);
    x.note(9, 3, 0, 0);
    e.harmless(x, "the last of six is looked at, too", y -> y.is(9), 0);
  }

  private void kinds(int k, int d, int more, int want) {
    FigureLeave x = new FigureLeave();
    x.note(3, k, d, more);
    e.harmless(x, "is(3) by " + k + ", " + d + ", " + more, y -> y.is(3), want);
  }

  private void isAtTheEdges() {
    e.says(28, "IS: KINDS (bits) by which all NOTES of it are so.");
    kinds(0, 0, 2, 1 + 2 + 8);
    kinds(0, 0, 0, 16);
    kinds(0, 6, 0, 8 + 16);
    kinds(0, 97, 0, 8 + 16);
    kinds(3, 99, 5, 2 + 32);
    kinds(3, 98, 5, 2);
    kinds(3, 98, 4, 4 + 32);
    kinds(3, 99, 6, 16);
    kinds(3, 99, 20, 0);
    kinds(1, 1, 0, 0);
  }

  private void lookNumbers() {
    e.says(29, "LOOK. NONE. BAD.");
    e.bounds("look(f)", FigureLeave::new, FigureLeave::look, 0, 9);
  }

  private void look(int k, int d, int more, int want) {
    FigureLeave x = new FigureLeave();
    x.note(3, k, d, more);
    e.harmless(x, "look(3) by " + k + ", " + d + ", " + more, y -> y.look(3), want);
  }

  private void lookAnswers() {
    e.says(29, "LOOK: 100 k and d (k 0 .. 3, d 0 .. 13) by which the most of these KINDS that WEAR alike are fewest; of like ones the least;");
    e.harmless(new FigureLeave(), "all kinds", x -> x.look(3), 6);
    look(0, 0, 0, 0);
    look(0, 0, 2, 106);
    look(0, 6, 2, 100);
    look(0, 6, 0, 0);
    look(1, 0, 2, 6);
    look(0, 0, 4, 1);
    look(1, 0, 4, 1);
    look(3, 1, 5, 0);
  }

  private void lookNone() {
    e.says(29, "none: no KIND.");
    look(0, 0, 20, Edges.NONE);
    look(1, 1, 0, Edges.NONE);
    FigureLeave x = new FigureLeave();
    x.note(3, 0, 0, 2);
    x.note(3, 0, 0, 4);
    e.harmless(x, "two that go against one another", y -> y.look(3), Edges.NONE);
    e.harmless(x, "another figure", y -> y.look(4), 6);
  }

  private static FigureLeave sevens(int strength, int... worths) {
    FigureLeave x = new FigureLeave();
    x.figure(7, Edges.PLAIN, strength);
    for (int worth : worths) {
      x.bill(7, worth);
    }
    return x;
  }

  private void twoNumbers() {
    e.says(30, "TWO, as bits. BAD: alike, too; NO: one is PAID.");
    e.bounds("two(a, 5) of six", () -> sevens(60, 1, 2, 3, 4, 5, 6), (x, n) -> x.two(n, 5 - n), 0, 5);
    e.bounds("two(a, 1) of two", () -> sevens(60, 1, 2), (x, n) -> x.two(n, 1), 0, 0);
    e.bounds("two(0, b) of two", () -> sevens(60, 1, 2), (x, n) -> x.two(0, n), 1, 1);
    e.bounds("two(0, b) of three", () -> sevens(60, 1, 2, 3), (x, n) -> x.two(0, n), 1, 2);
    for (int b = 0; b < 3; b++) {
      int bill = b;
      e.refused(sevens(60, 1, 2, 3), "two(" + b + ", " + b + ")", x -> x.two(bill, bill), Edges.BAD, Edges.BAD);
    }
    e.refused(new FigureLeave(), "two(0, 1) without bills", x -> x.two(0, 1), Edges.BAD, Edges.BAD);
    e.refused(new FigureLeave(), "two(-1, -1)", x -> x.two(-1, -1), Edges.BAD, Edges.BAD);
  }

  private void twoNo() {
    e.says(30, "NO: one is PAID.");
    FigureLeave x = sevens(60, 1, 2, 3);
    x.pay(1);
    e.refused(x, "the second is paid", y -> y.two(0, 1), Edges.NO, Edges.NO);
    e.refused(x, "the first is paid", y -> y.two(1, 2), Edges.NO, Edges.NO);
    e.harmless(x, "another is paid", y -> y.two(0, 2), 8);
    e.refused(x, "BAD ahead of NO: alike", y -> y.two(1, 1), Edges.BAD, Edges.BAD);
    e.refused(x, "BAD ahead of NO: no bill", y -> y.two(1, 3), Edges.BAD, Edges.BAD);
    e.refused(x, "BAD ahead of NO: no bill", y -> y.two(-1, 1), Edges.BAD, Edges.BAD);
    x.pay(2);
    e.refused(x, "both are paid", y -> y.two(1, 2), Edges.NO, Edges.NO);
  }

  private void twoHalf() {
    e.says(30, "who waits has half (cut) of the WORTH;");
    // none can be: who writes has 0, which is half of 1 and of 0
    e.harmless(sevens(1, 0, 0), "none can be, worths of 0", x -> x.two(0, 1), 15);
    e.harmless(sevens(1, 1, 1), "none can be, worths of 1", x -> x.two(0, 1), 15);
    e.harmless(sevens(1, 2, 2), "none can be, worths of 2", x -> x.two(0, 1), 1);
    e.harmless(sevens(1, 1, 2), "none can be, 1 and 2", x -> x.two(0, 1), 1 + 2);
    e.harmless(sevens(1, 2, 1), "none can be, 2 and 1", x -> x.two(0, 1), 1 + 4);
    e.harmless(sevens(1, 99, 99), "none can be, worths of 99", x -> x.two(0, 1), 1);
    // one can be: half of 1 is as much as nothing
    e.harmless(sevens(2, 1, 1), "one can be, worths of 1", x -> x.two(0, 1), 2 + 4 + 8);
    e.harmless(sevens(2, 2, 2), "one can be, worths of 2", x -> x.two(0, 1), 2 + 4);
    e.harmless(sevens(2, 99, 1), "one can be, 99 and 1", x -> x.two(0, 1), 2 + 4);
  }

  private void twoTogether() {
    e.says(30, "who writes the WORTH, if all that is written by both CAN be together, else 0:");
    e.harmless(sevens(4, 2, 2), "just strong enough", x -> x.two(0, 1), 8);
    e.harmless(sevens(3, 2, 2), "one too weak", x -> x.two(0, 1), 6);
    e.harmless(sevens(4, 0, 0), "without worth", x -> x.two(0, 1), 15);
    e.harmless(sevens(4, 0, 2), "one without worth", x -> x.two(0, 1), 12);
    e.harmless(sevens(4, 2, 0), "the other without worth", x -> x.two(0, 1), 10);
    FigureLeave x = sevens(1, 10);
    x.bill(3, 10);
    e.harmless(x, "the first can not be", y -> y.two(0, 1), 4);
    e.harmless(x, "the second can not be", y -> y.two(1, 0), 2);
  }

  private void twoRest() {
    e.says(30, "pairs that rest (bits: 0 both wait, 1 a writes, 2 b writes, 3 both; neither would have more by the other choice).");
    FigureLeave x = sevens(1, 10, 10);
    e.harmless(x, "0 both wait", y -> y.two(0, 1), 1);
    x.bill(3, 10);
    e.harmless(x, "1 a writes", y -> y.two(2, 0), 2);
    e.harmless(x, "2 b writes", y -> y.two(0, 2), 4);
    x.figure(7, Edges.PLAIN, 60);
    e.harmless(x, "3 both", y -> y.two(0, 2), 8);
    x.bill(7, 0);
    x.bill(3, 0);
    e.harmless(x, "all: none would have more", y -> y.two(3, 4), 15);
  }

  private void twoUnlike() {
    e.says(30, "TWO clerks with unlike BILLS a, b not PAID: each writes it as itself today, or waits:");
    FigureLeave x = sevens(2, 10, 10);
    e.harmless(x, "two bills of one number and worth", y -> y.two(0, 1), 6);
    e.refused(x, "a bill and itself", y -> y.two(0, 0), Edges.BAD, Edges.BAD);
    x.figure(7, Edges.SUNDAY, 1);
    e.harmless(x, "on a weekday", y -> y.two(0, 1), 1);
    x.night(6);
    e.harmless(x, "on a sunday", y -> y.two(0, 1), 8);
  }

  private void oddsNumbers() {
    e.says(31, "ODDS are THE FRACTION: 1. BAD.");
    e.bounds("odds(v, 0, 0)", FigureLeave::new, (x, n) -> x.odds(n, 0, 0), 0, 99);
    e.bounds("odds(0, x, 0)", FigureLeave::new, (x, n) -> x.odds(0, n, 0), 0, 99);
    e.bounds("odds(0, 0, c)", FigureLeave::new, (x, n) -> x.odds(0, 0, n), 0, 10);
    FigureLeave x = new FigureLeave();
    x.figure(7, Edges.PLAIN, 1);
    x.odds(7, 7, 3);
    e.refused(x, "odds(100, 100, 11), the fraction stays", y -> y.odds(100, 100, 11), Edges.BAD, Edges.BAD);
    e.due("above", x.part(0), 3);
    e.due("below", x.part(1), 10);
  }

  private void odds(FigureLeave x, int v, int by, int c, long above, long below) {
    e.due("odds(" + v + ", " + by + ", " + c + ")", x.odds(v, by, c), 1);
    e.due("above", x.part(0), above);
    e.due("below", x.part(1), below);
  }

  private void oddsNeverAndAlways() {
    e.says(31, "ODDS: by c of 10 (0 .. 10) a SIGN, each apart, WEARS nothing: the chance that v CAN be WRITTEN by x:");
    FigureLeave x = new FigureLeave();
    x.figure(7, Edges.PLAIN, 1);
    odds(x, 7, 7, 0, 0, 1);
    odds(x, 7, 7, 10, 1, 1);
    odds(x, 7, 9, 0, 1, 1);
    odds(x, 0, 77, 10, 1, 1);
    odds(x, 0, 77, 0, 0, 1);
    Edges.wearOut(x, 7, 2, Edges.PLAIN, 2);
    odds(x, 7, 7, 10, 1, 1);
    x.figure(7, Edges.PLAIN, 1);
    odds(x, 7, 7, 10, 0, 1);
    odds(x, 7, 9, 10, 1, 1);
    e.due("nothing is worn by it", x.count(4), 2);
    e.due("nothing may be undone by it", x.count(7), 0);
  }

  private void oddsEachApart() {
    e.says(31, "a SIGN, each apart, WEARS nothing:");
    FigureLeave x = new FigureLeave();
    x.figure(7, Edges.PLAIN, 2);
    odds(x, 77, 77, 1, 19, 100);
    odds(x, 77, 77, 9, 99, 100);
    // two of three or all three free: 3 * 81 * 1 + 729 of 1000
    odds(x, 84, 77, 9, 243, 250);
    // three of four or all four free: 4 * 729 + 6561 of 10000
    odds(x, 0, 77, 9, 9477, 10000);
    x.figure(7, Edges.PROUD, 3);
    // of 2 and 3 one must be free
    odds(x, 77, 77, 1, 19, 100);
    x.figure(7, Edges.PROUD, 2);
    // the second must be free, and then the first may wear 2
    odds(x, 77, 77, 1, 1, 10);
    x.figure(7, Edges.VAIN, 3);
    odds(x, 77, 77, 1, 1, 10);
    x.figure(8, Edges.PLAIN, 1);
    odds(x, 78, 78, 3, 3, 10);
    odds(x, 87, 87, 3, 9, 100);
  }

  private void yearsNumbers() {
    e.says(32, "YEARS by a SEED (0 .. 999999), n (0 .. 60) DAYS:");
    e.bounds("years(seed, 1)", FigureLeave::new, (x, n) -> x.years(n, 1), 0, 999999);
    e.bounds("years(0, n)", FigureLeave::new, (x, n) -> x.years(0, n), 0, 60);
    e.refused(new FigureLeave(), "years(-1, 61)", x -> x.years(-1, 61), Edges.BAD, Edges.BAD);
    e.harmless(new FigureLeave(), "no days", x -> x.years(999999, 0), 0);
    e.harmless(new FigureLeave(), "one day", x -> x.years(999999, 1), 1);
    e.harmless(new FigureLeave(), "sixty days", x -> x.years(0, 60), 60);
  }

  private void yearsWrong() {
    e.says(32, "YEARS. BAD.");
    FigureLeave x = new FigureLeave();
    Edges.wearOut(x, 7, 20, Edges.PLAIN, 20);
    e.refused(x, "years(1000000, 0)", y -> y.years(1000000, 0), Edges.BAD, Edges.BAD);
    e.refused(x, "years(0, 61)", y -> y.years(0, 61), Edges.BAD, Edges.BAD);
    e.refused(x, "years(-1, 0)", y -> y.years(-1, 0), Edges.BAD, Edges.BAD);
    e.refused(x, "years(0, -1)", y -> y.years(0, -1), Edges.BAD, Edges.BAD);
    e.harmless(x, "years(0, 0)", y -> y.years(0, 0), 0);
  }

  /** Whether the first number of a seed is v: it can be written by its own figures, and not without one of them. */
  private void firstIs(int seed, int v) {
    FigureLeave x = new FigureLeave();
    for (int f = 0; f < 10; f++) {
      x.figure(f, Edges.PLAIN, f == v % 10 || v > 9 && f == v / 10 ? 20 : 1);
    }
    e.harmless(x, "years(" + seed + ", 1) with the figures of " + v, y -> y.years(seed, 1), 1);
    x.figure(v % 10, Edges.PLAIN, 1);
    e.harmless(x, "years(" + seed + ", 1) without " + v % 10, y -> y.years(seed, 1), 0);
    if (v > 9) {
      x.figure(v % 10, Edges.PLAIN, 20);
      x.figure(v / 10, Edges.PLAIN, 1);
      e.harmless(x, "years(" + seed + ", 1) without " + v / 10, y -> y.years(seed, 1), 0);
    }
  }

  private void yearsFirst() {
    e.says(32, "X is SEED at first; on each DAY X becomes X times 1103515245 and 12345, by 2147483648 what is left over; X by 65536 (cut), by 100 left over, is WRITTEN as itself, if it CAN be;");
    firstIs(0, 0);
    firstIs(1, 38);
    // 2207042835 leaves 59559187, and that by 65536 is 908
    firstIs(2, 8);
    firstIs(103, 9);
    firstIs(72, 10);
    firstIs(194, 99);
    firstIs(999999, 28);
  }

  private void yearsLong() {
    e.says(32, "if it CAN be; then a NIGHT: how many are WRITTEN.");
    for (int seed : new int[] {0, 1, 999999}) {
      FigureLeave x = new FigureLeave();
      x.figure(3, Edges.PLAIN, 1);
      long drawn = seed;
      int want = 0;
      for (int n = 1; n <= 60; n++) {
        drawn = drawn * 1103515245L + 12345L & 0x7fffffffL;
        long v = (drawn >> 16) % 100;
        want += v % 10 == 3 || v / 10 == 3 ? 0 : 1;
        e.due("years(" + seed + ", " + n + ") without 3", x.years(seed, n), want);
      }
    }
  }

  private void yearsNights() {
    e.says(32, "then a NIGHT: how many are WRITTEN.");
    // by seed 0 the numbers are 0, 68, 88, 17, 98
    FigureLeave x = new FigureLeave();
    x.figure(8, Edges.PLAIN, 4);
    e.harmless(x, "68 and 88, a night between them", y -> y.years(0, 3), 3);
    x.figure(8, Edges.PLAIN, 3);
    e.harmless(x, "88 can not be", y -> y.years(0, 3), 2);
    e.harmless(x, "a night behind it all the same", y -> y.years(0, 5), 4);
    x = new FigureLeave();
    x.figure(6, Edges.PLAIN, 1);
    x.figure(8, Edges.OLD, 8);
    e.harmless(x, "68 can not be, and so wears no 8 for 88", y -> y.years(0, 3), 2);
    // 12, 6 and 3 on the third day, when 88 wears 8
    Edges.wearOut(x, 8, 12, Edges.OLD, 10);
    e.harmless(x, "nor does it rest the 8", y -> y.years(0, 3), 1);
    x.figure(8, Edges.OLD, 11);
    e.harmless(x, "which is as worn as it is", y -> y.years(0, 3), 2);
    int[] written = {1, 1, 1, 1, 2, 2, 1};
    for (int day = 0; day <= 6; day++) {
      FigureLeave sunday = Edges.onDay(day);
      sunday.figure(8, Edges.SUNDAY, 1);
      e.harmless(sunday, "an 8 that keeps sundays, from day " + day, y -> y.years(0, 3), written[day]);
    }
  }
}
