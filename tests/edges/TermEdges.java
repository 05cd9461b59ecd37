/** What "Terms" says of figures, days, numbers, lines, kinds and nights. */
final class TermEdges {
  private final Edges e;

  TermEdges(Edges edges) {
    e = edges;
  }

  void all() {
    figuresAtFirst();
    days();
    numbers();
    lines();
    fourSigns();
    plain();
    proud();
    lazy();
    sunday();
    vain();
    old();
    written();
    can();
    others();
    nights();
    nothingChanged();
    beyondTheLastDay();
    fractionAtFirst();
    lowestTerms();
  }

  private void figuresAtFirst() {
    e.says(Edges.TERMS, "9, each of a KIND (0 at first), with STRENGTH (1 .. 60; 20 at first), WORN by so much (0 at first)");
    FigureLeave x = new FigureLeave();
    for (int f = 0; f < 10; f++) {
      e.due("of(" + f + ", 0)", x.of(f, 0), Edges.PLAIN);
      e.due("of(" + f + ", 1)", x.of(f, 1), 20);
      e.due("of(" + f + ", 2)", x.of(f, 2), 0);
    }
  }

  private void days() {
    e.says(Edges.TERMS, "DAYS have numbers, 0 at first (9999 at most)");
    FigureLeave x = new FigureLeave();
    e.due("the first day", x.count(1), 0);
    Edges.sleep(x, 9998);
    e.due("the last but one", x.count(1), 9998);
    e.due("night(1)", x.night(1), 9999);
    e.due("night(1) on the last", x.night(1), 9999);
    e.due("the last day", x.count(1), 9999);
  }

  private void numbers() {
    e.says(Edges.TERMS, "NUMBERS are 0 .. 99, written by their figures (0 .. 9 by one, others by two, tens first)");
    int[] numbers = {0, 9, 10, 19, 90, 99};
    int[] signs = {1, 1, 2, 2, 2, 2};
    for (int i = 0; i < numbers.length; i++) {
      FigureLeave x = new FigureLeave();
      e.due("signs of " + numbers[i], x.cost(numbers[i], numbers[i]), 2 * signs[i]);
    }
    FigureLeave x = new FigureLeave();
    x.write(10, 10);
    e.due("the 1 of 10", x.of(1, 2), 2);
    e.due("the 0 of 10", x.of(0, 2), 2);
    x.figure(1, Edges.PROUD, 20);
    e.due("19, the proud 1 in front", x.cost(19, 19), 4);
    e.due("91, the proud 1 behind", x.cost(91, 91), 5);
  }

  private void line(int v, int by, String signs) {
    FigureLeave x = new FigureLeave();
    e.due("write(" + v + ", " + by + ")", x.write(v, by), 2 * signs.length());
    for (int f = 0; f < 10; f++) {
      int want = 0;
      for (int i = 0; i < signs.length(); i++) {
        want += signs.charAt(i) - '0' == f ? 2 : 0;
      }
      e.due("the worn " + f + " of " + v + " by " + by, x.of(f, 2), want);
    }
  }

  private void lines() {
    e.says(Edges.TERMS, "x alike v: v alone; x below v: a SUM, x, then v less x; x above v: a DIFFERENCE, x, then x less v.");
    line(5, 4, "41");
    line(5, 5, "5");
    line(5, 6, "61");
    line(0, 0, "0");
    line(0, 1, "11");
    line(1, 0, "01");
    line(99, 99, "99");
    line(99, 98, "981");
    line(98, 99, "991");
    line(99, 0, "099");
    line(0, 99, "9999");
    line(89, 99, "9910");
    line(90, 99, "999");
    line(20, 10, "1010");
    line(19, 10, "109");
  }

  private void fourSigns() {
    e.says(Edges.TERMS, "Its SIGNS are the figures of its numbers, one behind the other, from 0 on (4 at most).");
    FigureLeave x = new FigureLeave();
    x.figure(9, Edges.PROUD, 60);
    e.due("one sign", x.cost(9, 9), 2);
    e.due("two signs of one number", x.cost(99, 99), 2 + 3);
    e.due("two signs of two numbers", x.cost(0, 9), 2 + 3);
    e.due("three signs", x.cost(90, 99), 2 + 3 + 4);
    e.due("three signs, 0 in front", x.cost(99, 0), 2 + 3 + 4);
    e.due("four signs", x.cost(0, 99), 2 + 3 + 4 + 5);
    e.due("the last sign alone", x.wears(9, 3), 5);
  }

  private void wear(int kind, int day, int... want) {
    FigureLeave x = Edges.onDay(day);
    x.figure(6, kind, 60);
    for (int k = 0; k < 4; k++) {
      e.due("wears of kind " + kind + " as sign " + k + " on day " + day, x.wears(6, k), want[k]);
    }
  }

  /** What a figure of a kind rests, being worn w, and how worn it is behind the night. */
  private void rest(int kind, int w, int want, int left) {
    FigureLeave x = new FigureLeave();
    Edges.wearOut(x, 6, w % 2 == 0 ? w : w + 3, Edges.PLAIN, 60);
    if (w % 2 == 1) {
      x.night(1);
    }
    x.figure(6, kind, 60);
    e.due("worn", x.of(6, 2), w);
    e.due("rests of kind " + kind + " worn " + w, x.of(6, 4), want);
    x.night(1);
    e.due("worn behind the night", x.of(6, 2), left);
  }

  private void plain() {
    e.says(Edges.TERMS, "0 PLAIN: 2; 3.");
    for (int day : new int[] {0, 1, 6, 7, 13, 9999}) {
      wear(Edges.PLAIN, day, 2, 2, 2, 2);
    }
    rest(Edges.PLAIN, 4, 3, 1);
    rest(Edges.PLAIN, 3, 3, 0);
    rest(Edges.PLAIN, 2, 3, 0);
  }

  private void proud() {
    e.says(Edges.TERMS, "1 PROUD (under PLAIN): PLAIN and k; as PLAIN.");
    for (int day : new int[] {0, 1, 6, 13}) {
      wear(Edges.PROUD, day, 2, 3, 4, 5);
    }
    rest(Edges.PROUD, 4, 3, 1);
    rest(Edges.PROUD, 3, 3, 0);
  }

  private void lazy() {
    e.says(Edges.TERMS, "2 LAZY (under PLAIN): twice PLAIN; twice PLAIN.");
    for (int day : new int[] {0, 1, 6, 13}) {
      wear(Edges.LAZY, day, 4, 4, 4, 4);
    }
    rest(Edges.LAZY, 7, 6, 1);
    rest(Edges.LAZY, 6, 6, 0);
    rest(Edges.LAZY, 1, 6, 0);
  }

  private void sunday() {
    e.says(Edges.TERMS, "3 SUNDAY (under PLAIN): as PLAIN, 0 on DAYS that leave 6 by 7; 1 less than PLAIN.");
    for (int day : new int[] {0, 5, 7, 12, 14, 9994, 9996, 9999}) {
      wear(Edges.SUNDAY, day, 2, 2, 2, 2);
    }
    for (int day : new int[] {6, 13, 20, 9995}) {
      wear(Edges.SUNDAY, day, 0, 0, 0, 0);
    }
    rest(Edges.SUNDAY, 3, 2, 1);
    rest(Edges.SUNDAY, 2, 2, 0);
    rest(Edges.SUNDAY, 1, 2, 0);
  }

  private void vain() {
    e.says(Edges.TERMS, "4 VAIN (under PROUD): 0, if k is 0, else 1 more than PROUD; as PROUD.");
    for (int day : new int[] {0, 1, 6, 13}) {
      wear(Edges.VAIN, day, 0, 4, 5, 6);
    }
    rest(Edges.VAIN, 4, 3, 1);
    rest(Edges.VAIN, 3, 3, 0);
  }

  private void old() {
    e.says(Edges.TERMS, "5 OLD (under LAZY): LAZY and 1 on DAYS of an odd number, else as LAZY; half (cut) of w, LAZY at most.");
    for (int day : new int[] {0, 2, 6, 9998}) {
      wear(Edges.OLD, day, 4, 4, 4, 4);
    }
    for (int day : new int[] {1, 3, 13, 9999}) {
      wear(Edges.OLD, day, 5, 5, 5, 5);
    }
    rest(Edges.OLD, 0, 0, 0);
    rest(Edges.OLD, 1, 0, 1);
    rest(Edges.OLD, 2, 1, 1);
    rest(Edges.OLD, 3, 1, 2);
    rest(Edges.OLD, 11, 5, 6);
    rest(Edges.OLD, 12, 6, 6);
    rest(Edges.OLD, 13, 6, 7);
    rest(Edges.OLD, 14, 6, 8);
    rest(Edges.OLD, 60, 6, 54);
  }

  private void written() {
    e.says(Edges.TERMS, "A LINE is WRITTEN: each figure is WORN more by what it WEARS, SIGN by SIGN (today).");
    FigureLeave x = Edges.onDay(5);
    x.figure(1, Edges.PROUD, 60);
    x.figure(2, Edges.VAIN, 60);
    x.figure(3, Edges.SUNDAY, 60);
    x.figure(4, Edges.OLD, 60);
    e.due("11 and 11", x.write(22, 11), 2 + 3 + 4 + 5);
    e.due("worn 1", x.of(1, 2), 14);
    e.due("22 less 18", x.write(4, 22), 0 + 4 + 4 + 2);
    e.due("worn 2", x.of(2, 2), 4);
    e.due("worn 1", x.of(1, 2), 18);
    e.due("worn 8", x.of(8, 2), 2);
    e.due("on day 5", x.write(43, 43), 5 + 2);
    x.night(1);
    e.due("on day 6", x.write(43, 43), 4 + 0);
    // 5 rested by 2, and 4; 2 rested by 2, and 0
    e.due("worn 4", x.of(4, 2), 7);
    e.due("worn 3", x.of(3, 2), 0);
  }

  private void can() {
    e.says(Edges.TERMS, "It CAN be, if no figure that is in it is then WORN by more than its STRENGTH");
    int[][] rows = {{7, 7, 2}, {77, 77, 4}, {84, 77, 6}, {0, 77, 8}};
    for (int[] row : rows) {
      FigureLeave x = new FigureLeave();
      x.figure(7, Edges.PLAIN, row[2]);
      e.due("just strong enough", x.can(row[0], row[1]), 1);
      e.due("it is written", x.write(row[0], row[1]) > 0 ? 1 : 0, 1);
      e.due("its worn 7", x.of(7, 2), row[2]);
      e.due("not once more", x.can(7, 7), 0);
      x = new FigureLeave();
      x.figure(7, Edges.PLAIN, row[2] - 1);
      e.due("one too weak", x.can(row[0], row[1]), 0);
      e.refused(x, "write one too weak", y -> y.write(row[0], row[1]), Edges.NO, Edges.NO);
    }
    FigureLeave x = new FigureLeave();
    Edges.wearOut(x, 7, 4, Edges.VAIN, 4);
    e.due("worn as its strength, wearing nothing", x.can(7, 7), 1);
    x.figure(7, Edges.VAIN, 3);
    e.due("worn by more than its strength, wearing nothing", x.can(7, 7), 0);
  }

  private void others() {
    e.says(Edges.TERMS, "(others do not matter)");
    FigureLeave x = new FigureLeave();
    Edges.wearOut(x, 3, 60, Edges.PLAIN, 1);
    e.due("7, though 3 is worn out", x.can(7, 7), 1);
    e.due("write(7, 7)", x.write(7, 7), 2);
    e.due("3 itself", x.can(3, 3), 0);
    e.due("7 by 4 wants 3", x.can(7, 4), 0);
    e.due("7 by 10 wants 3", x.can(7, 10), 0);
    e.due("33 by 0 wants 3", x.can(33, 0), 0);
  }

  private void nights() {
    e.says(Edges.TERMS, "A NIGHT: each figure is WORN less by what it RESTS (0 at least); the DAY is one more.");
    FigureLeave x = new FigureLeave();
    for (int f = 0; f < 10; f++) {
      x.write(f, f);
    }
    x.write(99, 99);
    e.due("night(1)", x.night(1), 1);
    for (int f = 0; f < 10; f++) {
      e.due("the worn " + f, x.of(f, 2), f == 9 ? 3 : 0);
    }
    x.night(1);
    e.due("the worn 9", x.of(9, 2), 0);
    x.night(1);
    e.due("still not below 0", x.of(9, 2), 0);
    e.due("all together", x.count(4), 0);
  }

  private static FigureLeave busy() {
    FigureLeave x = new FigureLeave();
    Edges.wearOut(x, 1, 8, Edges.PROUD, 9);
    x.figure(2, Edges.SUNDAY, 3);
    x.figure(3, Edges.OLD, 9);
    x.bill(13, 20);
    x.bill(22, 9);
    x.bill(31, 7);
    x.bill(4, 1);
    x.trace(1, 2);
    x.note(2, 0, 6, 0);
    x.pay(3);
    x.night(1);
    x.write(5, 5);
    return x;
  }

  private void nothingChanged() {
    e.says(Edges.TERMS, "(Nothing is changed by these;");
    FigureLeave x = busy();
    FigureLeave twin = busy();
    for (int n = 0; n < 10; n++) {
      x.of(n, 3);
      x.of(n, 4);
      x.best(11 * n);
      x.when(11 * n, 0);
      x.cost(n, 99);
      x.can(n, 99);
      x.wears(n, 3);
      x.is(n);
      x.look(n);
      x.years(n, 60);
    }
    x.first();
    x.counts();
    x.most(0);
    x.most(1);
    x.plan(Edges.NONE);
    x.plan(0);
    x.wanted(0);
    x.wanted(1);
    x.which(Edges.NONE);
    x.which(0);
    x.two(0, 1);
    for (int left = 4; left > 0; left--) {
      e.due("digest()", x.digest(), twin.digest());
      e.due("undo()", x.undo(), twin.undo());
    }
    for (int why = 0; why < 3; why++) {
      e.due("status(" + why + ")", x.status(why), twin.status(why));
    }
  }

  private void beyondTheLastDay() {
    e.says(Edges.TERMS, "DAYS go beyond 9999 in them.)");
    FigureLeave x = Edges.onDay(9999);
    x.figure(8, Edges.SUNDAY, 1);
    e.due("10002 is a sunday", x.when(8, 8), 3);
    x.bill(8, 1);
    e.due("plan on it", x.plan(Edges.NONE), 4);
    e.due("plan of the bill", x.plan(0), 3);
    e.due("still the last day", x.count(1), 9999);
    x = Edges.onDay(9999);
    x.figure(8, Edges.OLD, 4);
    e.due("10000 is even", x.when(8, 8), 1);
    x = Edges.onDay(9999);
    x.figure(0, Edges.OLD, 4);
    e.due("years, 0 on the odd 9999", x.years(0, 1), 0);
    // by seed 2 the first two numbers are 8 and 17
    x = Edges.onDay(9999);
    x.figure(1, Edges.OLD, 4);
    e.due("years, 17 on the even 10000", x.years(2, 2), 2);
  }

  private void fractionAtFirst() {
    e.says(Edges.TERMS, "THE FRACTION is 0 by 1 at first;");
    FigureLeave x = new FigureLeave();
    e.due("part(0)", x.part(0), 0);
    e.due("part(1)", x.part(1), 1);
  }

  private void lowestTerms() {
    e.says(Edges.TERMS, "lowest terms, below above 0.");
    FigureLeave x = new FigureLeave();
    x.figure(7, Edges.PLAIN, 1);
    int[][] rows = {{0, 0, 1}, {10, 1, 1}, {5, 1, 2}, {2, 1, 5}, {4, 2, 5}, {1, 1, 10}, {3, 3, 10}};
    for (int[] row : rows) {
      x.odds(7, 7, row[0]);
      e.due("above by " + row[0], x.part(0), row[1]);
      e.due("below by " + row[0], x.part(1), row[2]);
    }
    x.odds(0, 77, 1);
    e.due("four free ones, above", x.part(0), 1);
    e.due("four free ones, below", x.part(1), 10000);
    x.odds(0, 77, 9);
    e.due("9 of 10 four times, above", x.part(0), 6561);
    e.due("9 of 10 four times, below", x.part(1), 10000);
    x.odds(0, 77, 0);
    e.due("never, above", x.part(0), 0);
    e.due("never, below", x.part(1), 1);
  }
}
