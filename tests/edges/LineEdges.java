/** Promises 14 to 23: wears, cost, can, best, first, counts, when, most, plan, wanted. */
final class LineEdges {
  private static final int PLAN_BAD = -10;
  private final Edges e;

  LineEdges(Edges edges) {
    e = edges;
  }

  void all() {
    wearsNumbers();
    wearsToday();
    costNumbers();
    costOnly();
    canNumbers();
    canOrNot();
    bestNumbers();
    bestOfLikeOnes();
    bestElseTheLeast();
    bestByTheLast();
    bestNone();
    firstNone();
    firstLeast();
    firstLast();
    countsNone();
    countsLast();
    countsGoOn();
    whenNumbers();
    whenNow();
    whenFarthest();
    whenNone();
    mostNumbers();
    mostEmpty();
    mostAll();
    mostLeastBits();
    mostTogether();
    mostPaid();
    planNumbers();
    planAsked();
    planTogether();
    planNoBills();
    planFourDays();
    planLastOnesNumber();
    planFirstWay();
    planNone();
    planPaid();
    wantedNumbers();
    wantedLeast();
    wantedTenMore();
    wantedNothing();
  }

  private void wearsNumbers() {
    e.says(14, "What a figure WEARS as SIGN k (0 .. 3) today. BAD.");
    e.bounds("wears(f, 0)", FigureLeave::new, (x, n) -> x.wears(n, 0), 0, 9);
    e.bounds("wears(f, 3)", FigureLeave::new, (x, n) -> x.wears(n, 3), 0, 9);
    e.bounds("wears(0, k)", FigureLeave::new, (x, n) -> x.wears(0, n), 0, 3);
    e.bounds("wears(9, k)", FigureLeave::new, (x, n) -> x.wears(9, n), 0, 3);
    e.refused(new FigureLeave(), "wears(10, 4)", x -> x.wears(10, 4), Edges.BAD, Edges.BAD);
  }

  private void wearsToday() {
    e.says(14, "What a figure WEARS as SIGN k (0 .. 3) today.");
    FigureLeave x = Edges.onDay(5);
    x.figure(0, Edges.SUNDAY, 1);
    x.figure(9, Edges.OLD, 1);
    e.due("wears(0, 0) on 5", x.wears(0, 0), 2);
    e.due("wears(9, 3) on 5", x.wears(9, 3), 5);
    x.night(1);
    e.due("wears(0, 0) on 6", x.wears(0, 0), 0);
    e.due("wears(9, 3) on 6", x.wears(9, 3), 4);
    x.undo();
    e.due("wears(0, 0) on 5 again", x.wears(0, 0), 2);
  }

  private void costNumbers() {
    e.says(15, "COST. BAD.");
    e.bounds("cost(v, 0)", FigureLeave::new, (x, n) -> x.cost(n, 0), 0, 99);
    e.bounds("cost(0, x)", FigureLeave::new, (x, n) -> x.cost(0, n), 0, 99);
    e.refused(new FigureLeave(), "cost(100, -1)", x -> x.cost(100, -1), Edges.BAD, Edges.BAD);
  }

  private void costOnly() {
    e.says(15, "COST of v by x: what its SIGNS WEAR together.");
    FigureLeave x = new FigureLeave();
    Edges.wearOut(x, 9, 60, Edges.VAIN, 1);
    e.harmless(x, "a line that can not be", y -> y.cost(0, 99), 0 + 4 + 5 + 6);
    e.harmless(x, "a line that wears nothing", y -> y.cost(9, 9), 0);
    Edges.allFigures(x, Edges.OLD, 60);
    x.night(1);
    e.harmless(x, "the dearest line", y -> y.cost(0, 99), 20);
  }

  private void canNumbers() {
    e.says(16, "Whether v CAN be WRITTEN by x (1, 0). BAD.");
    e.bounds("can(v, 0)", FigureLeave::new, (x, n) -> x.can(n, 0), 0, 99);
    e.bounds("can(0, x)", FigureLeave::new, (x, n) -> x.can(0, n), 0, 99);
    e.refused(new FigureLeave(), "can(-1, 100)", x -> x.can(-1, 100), Edges.BAD, Edges.BAD);
  }

  private void canOrNot() {
    e.says(16, "Whether v CAN be WRITTEN by x (1, 0).");
    FigureLeave x = new FigureLeave();
    x.figure(9, Edges.PROUD, 14);
    e.harmless(x, "four proud nines of 14", y -> y.can(0, 99), 1);
    x.figure(9, Edges.PROUD, 13);
    e.harmless(x, "four proud nines of 13", y -> y.can(0, 99), 0);
    e.harmless(x, "three proud nines of 13", y -> y.can(90, 99), 1);
  }

  private void bestNumbers() {
    e.says(17, "BEST. NONE. BAD.");
    e.bounds("best(v)", FigureLeave::new, FigureLeave::best, 0, 99);
  }

  private void bestOfLikeOnes() {
    e.says(17, "BEST of v: the x by which it CAN be WRITTEN with the least COST; of like ones v,");
    FigureLeave x = new FigureLeave();
    for (int v : new int[] {0, 9, 10, 99}) {
      e.harmless(x, "best(" + v + ")", y -> y.best(v), v);
    }
    x.figure(7, Edges.LAZY, 20);
    e.due("7 costs as much as 1 and 6", x.cost(7, 1) - x.cost(7, 7), 0);
    e.harmless(x, "best(7)", y -> y.best(7), 7);
    x.figure(7, Edges.OLD, 20);
    e.harmless(x, "best(7) on an even day", y -> y.best(7), 7);
    x.night(1);
    e.harmless(x, "best(7) on an odd day", y -> y.best(7), 1);
  }

  private void bestElseTheLeast() {
    e.says(17, "of like ones v, else the least;");
    FigureLeave x = new FigureLeave();
    x.figure(7, Edges.PLAIN, 1);
    e.harmless(x, "best(7)", y -> y.best(7), 1);
    x.figure(1, Edges.PLAIN, 1);
    e.harmless(x, "best(7) without 1", y -> y.best(7), 2);
    e.harmless(x, "best(1) without 1", y -> y.best(1), 3);
    x.figure(4, Edges.VAIN, 20);
    e.harmless(x, "best(7), the vain one in front", y -> y.best(7), 4);
    x = new FigureLeave();
    x.figure(8, Edges.VAIN, 20);
    x.figure(9, Edges.VAIN, 20);
    x.figure(7, Edges.LAZY, 20);
    e.harmless(x, "best(7), the least of two differences", y -> y.best(7), 8);
  }

  private static FigureLeave onlyThese(int... figures) {
    FigureLeave x = new FigureLeave();
    Edges.allFigures(x, Edges.PLAIN, 1);
    for (int f : figures) {
      x.figure(f, Edges.PLAIN, 20);
    }
    return x;
  }

  private void bestByTheLast() {
    e.says(17, "the x by which it CAN be WRITTEN with the least COST;");
    FigureLeave x = onlyThese(9, 1);
    e.harmless(x, "98 is 99 less 1", y -> y.best(98), 99);
    x = onlyThese(0, 7);
    e.harmless(x, "7", y -> y.best(7), 7);
    x = onlyThese(9);
    e.harmless(x, "0 is 9 less 9", y -> y.best(0), 9);
  }

  private void bestNone() {
    e.says(17, "else the least; none.");
    FigureLeave x = onlyThese();
    for (int v : new int[] {0, 1, 99}) {
      e.harmless(x, "best(" + v + ") of no figures", y -> y.best(v), Edges.NONE);
    }
    x = onlyThese(9);
    e.harmless(x, "best(1) of nines", y -> y.best(1), Edges.NONE);
    e.harmless(x, "best(99) of nines", y -> y.best(99), 99);
  }

  private void firstNone() {
    e.says(18, "FIRST. NONE.");
    FigureLeave x = new FigureLeave();
    e.harmless(x, "first() of a new object", FigureLeave::first, Edges.NONE);
    x.figure(9, Edges.PLAIN, 1);
    e.harmless(x, "first() without 9", FigureLeave::first, Edges.NONE);
  }

  private void firstLeast() {
    e.says(18, "FIRST: the least v that CAN not be by any x; none.");
    e.harmless(onlyThese(), "first() of no figures", FigureLeave::first, 0);
    e.harmless(onlyThese(0), "first() of 0", FigureLeave::first, 1);
    e.harmless(onlyThese(9), "first() of nines: 0 is 9 less 9", FigureLeave::first, 1);
    e.harmless(onlyThese(9, 8), "first() of 9 and 8: 1 is 9 less 8", FigureLeave::first, 2);
  }

  private void firstLast() {
    e.says(18, "FIRST: the least v that CAN not be by any x; none.");
    FigureLeave x = onlyThese(0, 2, 3, 4, 6, 8);
    e.harmless(x, "99 is 33 and 66", FigureLeave::first, Edges.NONE);
    x.figure(6, Edges.PLAIN, 3);
    e.harmless(x, "99 alone can not be", FigureLeave::first, 99);
  }

  private void countsNone() {
    e.says(19, "COUNTS: 0, 1, 2, .. are WRITTEN as themselves, one behind the other, till one CAN not be");
    FigureLeave x = new FigureLeave();
    e.harmless(x, "counts() of a new object", FigureLeave::counts, 18);
    x.figure(0, Edges.PLAIN, 1);
    e.harmless(x, "not even 0", FigureLeave::counts, 0);
    x.figure(0, Edges.PLAIN, 2);
    e.harmless(x, "0 but once", FigureLeave::counts, 10);
    x.figure(0, Edges.PLAIN, 4);
    x.figure(1, Edges.PLAIN, 2);
    e.harmless(x, "1 but once", FigureLeave::counts, 10);
    x.figure(1, Edges.PLAIN, 1);
    e.harmless(x, "no 1", FigureLeave::counts, 1);
  }

  private void countsLast() {
    e.says(19, "(99 at last): how many are.");
    FigureLeave x = new FigureLeave();
    Edges.allFigures(x, Edges.PLAIN, 40);
    // each figure but 0 is written twenty times, 0 ten times
    e.harmless(x, "all", FigureLeave::counts, 100);
    x.figure(9, Edges.PLAIN, 39);
    e.harmless(x, "all but 99", FigureLeave::counts, 99);
    x.figure(9, Edges.PLAIN, 38);
    e.harmless(x, "99 alone is too much", FigureLeave::counts, 99);
    x.figure(9, Edges.PLAIN, 35);
    e.harmless(x, "98 is too much", FigureLeave::counts, 98);
    x.figure(9, Edges.PLAIN, 60);
    e.harmless(x, "no more than all", FigureLeave::counts, 100);
  }

  private void countsGoOn() {
    e.says(19, "COUNTS.");
    FigureLeave x = new FigureLeave();
    Edges.wearOut(x, 5, 20, Edges.PLAIN, 20);
    e.harmless(x, "5 is worn out", FigureLeave::counts, 5);
    x.night(1);
    e.harmless(x, "5 is there once", FigureLeave::counts, 15);
    x = Edges.onDay(6);
    Edges.allFigures(x, Edges.SUNDAY, 1);
    e.harmless(x, "all on a sunday", FigureLeave::counts, 100);
    x.night(1);
    e.harmless(x, "none on a monday", FigureLeave::counts, 0);
  }

  private void whenNumbers() {
    e.says(20, "WHEN. NONE. BAD.");
    e.bounds("when(v, 0)", FigureLeave::new, (x, n) -> x.when(n, 0), 0, 99);
    e.bounds("when(0, x)", FigureLeave::new, (x, n) -> x.when(0, n), 0, 99);
    e.refused(new FigureLeave(), "when(100, -1)", x -> x.when(100, -1), Edges.BAD, Edges.BAD);
  }

  private void whenNow() {
    e.says(20, "WHEN: behind how many NIGHTS (0 .. 60) v CAN be WRITTEN by x first;");
    FigureLeave x = new FigureLeave();
    e.harmless(x, "now", y -> y.when(0, 99), 0);
    Edges.wearOut(x, 7, 10, Edges.PLAIN, 10);
    e.harmless(x, "one night", y -> y.when(7, 7), 1);
    e.harmless(x, "two nights", y -> y.when(77, 77), 2);
    e.harmless(x, "three nights", y -> y.when(0, 77), 3);
    x.figure(7, Edges.PLAIN, 2);
    e.harmless(x, "all rested", y -> y.when(7, 7), 4);
  }

  private void whenFarthest() {
    e.says(20, "WHEN: behind how many NIGHTS (0 .. 60) v CAN be WRITTEN by x first;");
    FigureLeave x = Edges.onDay(6);
    Edges.wearOut(x, 8, 60, Edges.SUNDAY, 2);
    e.harmless(x, "thirty nights of rest", y -> y.when(8, 8), 30);
    x = Edges.onDay(5);
    Edges.wearOut(x, 8, 60, Edges.SUNDAY, 2);
    e.harmless(x, "a night fewer by a sunday", y -> y.when(8, 8), 29);
    x.figure(8, Edges.SUNDAY, 1);
    e.harmless(x, "thirty nights of rest, then a sunday", y -> y.when(8, 8), 36);
    x.figure(4, Edges.OLD, 4);
    e.harmless(x, "thirty nights of rest, then an even sunday", y -> y.when(48, 48), 43);
    x = Edges.onDay(7);
    x.figure(8, Edges.SUNDAY, 1);
    e.harmless(x, "a week less a day", y -> y.when(8, 8), 6);
    x.night(6);
    e.harmless(x, "today", y -> y.when(8, 8), 0);
  }

  private void whenNone() {
    e.says(20, "v CAN be WRITTEN by x first; none.");
    FigureLeave x = new FigureLeave();
    x.figure(7, Edges.PLAIN, 1);
    e.harmless(x, "never strong enough", y -> y.when(7, 7), Edges.NONE);
    x.figure(7, Edges.PLAIN, 3);
    e.harmless(x, "never twice", y -> y.when(77, 77), Edges.NONE);
    Edges.wearOut(x, 7, 2, Edges.OLD, 4);
    // an old one that is worn by 1 rests no more, and wears 4 at least
    e.harmless(x, "never rested", y -> y.when(7, 7), Edges.NONE);
    x.figure(7, Edges.OLD, 5);
    e.harmless(x, "rested to 1 on an even day", y -> y.when(7, 7), 2);
  }

  private static FigureLeave bills(int... numbersAndWorths) {
    FigureLeave x = new FigureLeave();
    for (int i = 0; i + 1 < numbersAndWorths.length; i += 2) {
      x.bill(numbersAndWorths[i], numbersAndWorths[i + 1]);
    }
    return x;
  }

  private void most(FigureLeave x, String what, int bits, int worth) {
    e.harmless(x, "most(0), " + what, y -> y.most(0), bits);
    e.harmless(x, "most(1), " + what, y -> y.most(1), worth);
  }

  private void mostNumbers() {
    e.says(21, "MOST: the BILLS (0; bits), their WORTH (1). BAD.");
    e.bounds("most(what)", FigureLeave::new, FigureLeave::most, 0, 1);
    e.bounds("most(what) of a bill", () -> bills(1, 1), FigureLeave::most, 0, 1);
  }

  private void mostEmpty() {
    e.says(21, "MOST: BILLS not PAID (bits) that CAN be WRITTEN as themselves today, all together,");
    most(new FigureLeave(), "no bills", 0, 0);
    FigureLeave x = bills(7, 99);
    x.figure(7, Edges.PLAIN, 1);
    most(x, "it can not be", 0, 0);
    most(bills(7, 0), "it has no worth", 0, 0);
    most(bills(7, 1), "it has some worth", 1, 1);
    x = bills(1, 9, 2, 9, 3, 9, 4, 9, 5, 9, 6, 9);
    x.house();
    most(x, "bills that were there", 0, 0);
    x.bill(7, 1);
    most(x, "one, and those that were there", 1, 1);
  }

  private void mostAll() {
    e.says(21, "all together, of the most WORTH together;");
    most(bills(1, 99, 2, 99, 3, 99, 4, 99, 5, 99, 99, 99), "all six", 63, 594);
    most(bills(1, 0, 2, 0, 3, 0, 4, 0, 5, 0, 6, 1), "the last alone", 32, 1);
  }

  private void mostLeastBits() {
    e.says(21, "of like ones the least bits; their WORTH.");
    FigureLeave x = bills(7, 5, 7, 5, 7, 5, 7, 10);
    x.figure(7, Edges.PLAIN, 3);
    most(x, "one of them", 8, 10);
    x.figure(7, Edges.PLAIN, 2);
    most(x, "one of them still", 8, 10);
    x = bills(7, 5, 7, 5, 77, 10, 77, 10);
    x.figure(7, Edges.PLAIN, 4);
    most(x, "the first two, or the third, or the last", 3, 10);
    x = bills(77, 10, 7, 5, 7, 5);
    x.figure(7, Edges.PLAIN, 5);
    most(x, "the first, or the other two", 1, 10);
    most(bills(7, 0, 8, 3, 9, 0), "none without worth", 2, 3);
  }

  private void mostTogether() {
    e.says(21, "that CAN be WRITTEN as themselves today, all together,");
    FigureLeave x = bills(7, 1, 17, 1, 71, 1);
    x.figure(7, Edges.PLAIN, 6);
    most(x, "just strong enough", 7, 3);
    x.figure(7, Edges.PLAIN, 5);
    most(x, "one too weak", 3, 2);
    x.figure(7, Edges.SUNDAY, 1);
    most(x, "not at all", 0, 0);
    x.night(6);
    most(x, "on a sunday", 7, 3);
  }

  private void mostPaid() {
    e.says(21, "MOST: BILLS not PAID (bits)");
    FigureLeave x = bills(1, 9, 2, 8);
    x.pay(0);
    most(x, "one is paid", 2, 8);
    x.pay(1);
    most(x, "all are paid", 0, 0);
    x.undo();
    most(x, "one is paid again", 2, 8);
  }

  private static FigureLeave sevens(int bills, int strength) {
    FigureLeave x = new FigureLeave();
    x.figure(7, Edges.PLAIN, strength);
    for (int b = 0; b < bills; b++) {
      x.bill(7, 1);
    }
    return x;
  }

  private void plan(FigureLeave x, int days, int... each) {
    e.harmless(x, "plan(NONE)", y -> y.plan(Edges.NONE), days);
    for (int b = 0; b < each.length; b++) {
      int bill = b;
      e.harmless(x, "plan(" + b + ")", y -> y.plan(bill), each[b]);
    }
  }

  private void planNumbers() {
    e.says(22, "BAD: -10.");
    e.boundsBy("plan(b) of six", () -> sevens(6, 60), FigureLeave::plan, Edges.NONE, 5, PLAN_BAD);
    e.boundsBy("plan(b) of one", () -> sevens(1, 60), FigureLeave::plan, Edges.NONE, 0, PLAN_BAD);
    e.boundsBy("plan(b) of none", FigureLeave::new, FigureLeave::plan, Edges.NONE, Edges.NONE, PLAN_BAD);
  }

  private void planAsked() {
    e.says(22, "PLAN: how few DAYS (b = NONE), the DAY of a BILL.");
    FigureLeave x = sevens(6, 60);
    plan(x, 1, 0, 0, 0, 0, 0, 0);
    x = sevens(3, 2);
    e.harmless(x, "plan(2) asked first", y -> y.plan(2), 2);
    e.harmless(x, "plan(NONE) behind it", y -> y.plan(Edges.NONE), 3);
    e.harmless(x, "plan(0) behind it", y -> y.plan(0), 0);
  }

  private void planTogether() {
    e.says(22, "all that are of one DAY together, so that all CAN be:");
    FigureLeave x = bills(17, 1, 71, 1, 77, 1);
    x.figure(7, Edges.PLAIN, 8);
    plan(x, 1, 0, 0, 0);
    x.figure(7, Edges.PLAIN, 7);
    plan(x, 2, 0, 0, 1);
    x.figure(7, Edges.PROUD, 5);
    // 17 wears 3, 71 wears 2, 77 wears 5, and three are rested each night
    plan(x, 3, 0, 0, 2);
    x.figure(7, Edges.PROUD, 4);
    plan(x, Edges.NONE, Edges.NONE, Edges.NONE, Edges.NONE);
  }

  private void planNoBills() {
    e.says(22, "(the last one's number and 1; 0: no such BILLS)");
    plan(new FigureLeave(), 0);
    FigureLeave x = sevens(2, 60);
    plan(x, 1, 0, 0);
    x.pay(0);
    plan(x, 1, Edges.NONE, 0);
    x.pay(1);
    plan(x, 0, Edges.NONE, Edges.NONE);
    x.house();
    plan(x, 0);
  }

  private void planFourDays() {
    e.says(22, "PLAN: each BILL not PAID is WRITTEN as itself on one of the DAYS 0 .. 3 from now, a NIGHT between each two,");
    plan(sevens(1, 2), 1, 0);
    plan(sevens(2, 2), 2, 0, 1);
    plan(sevens(3, 2), 3, 0, 1, 2);
    plan(sevens(4, 2), 4, 0, 1, 2, 3);
    plan(sevens(5, 2), Edges.NONE, Edges.NONE, Edges.NONE, Edges.NONE, Edges.NONE, Edges.NONE);
    plan(sevens(6, 12), 1, 0, 0, 0, 0, 0, 0);
    plan(sevens(6, 11), 2, 0, 0, 0, 0, 0, 1);
  }

  private void planLastOnesNumber() {
    e.says(22, "on how few DAYS (the last one's number and 1;");
    FigureLeave x = sevens(1, 1);
    x.figure(7, Edges.SUNDAY, 1);
    x.night(2);
    plan(x, Edges.NONE, Edges.NONE);
    x.night(1);
    plan(x, 4, 3);
    x.night(1);
    plan(x, 3, 2);
    x.night(1);
    plan(x, 2, 1);
    x.night(1);
    plan(x, 1, 0);
    x.night(1);
    plan(x, Edges.NONE, Edges.NONE);
    x.bill(3, 3);
    plan(x, Edges.NONE, Edges.NONE, Edges.NONE);
    x.night(3);
    plan(x, 4, 3, 0);
  }

  private void planFirstWay() {
    e.says(22, "the DAY of a BILL in the first such way (rising, BILL by BILL); none.");
    plan(sevens(4, 5), 2, 0, 0, 1, 1);
    FigureLeave x = bills(1, 1, 11, 1);
    x.figure(1, Edges.OLD, 9);
    // 8 of the 11 today, rested to 4, and 5 of the 1 tomorrow; the other way round it is 2 and 10
    plan(x, 2, 1, 0);
    x = bills(7, 1, 3, 1, 7, 1);
    x.figure(7, Edges.PLAIN, 2);
    plan(x, 2, 0, 0, 1);
  }

  private void planNone() {
    e.says(22, "NONE: none (also for a BILL that is PAID).");
    FigureLeave x = bills(3, 3, 7, 7);
    x.figure(7, Edges.PLAIN, 1);
    plan(x, Edges.NONE, Edges.NONE, Edges.NONE);
    Edges.wearOut(x, 7, 16, Edges.PLAIN, 8);
    // 16, 13, 10, 7: never 6
    plan(x, Edges.NONE, Edges.NONE, Edges.NONE);
    x.figure(7, Edges.PLAIN, 9);
    plan(x, 4, 0, 3);
  }

  private void planPaid() {
    e.says(22, "(also for a BILL that is PAID)");
    FigureLeave x = bills(1, 1, 2, 2, 3, 3);
    x.pay(1);
    plan(x, 1, 0, Edges.NONE, 0);
    x.undo();
    plan(x, 1, 0, 0, 0);
  }

  private void wantedNumbers() {
    e.says(23, "WANTED: the figure (0), how many (1). BAD.");
    e.bounds("wanted(what)", FigureLeave::new, FigureLeave::wanted, 0, 1);
  }

  private void wanted(FigureLeave x, String what, int figure, int many) {
    e.harmless(x, "wanted(0), " + what, y -> y.wanted(0), figure);
    e.harmless(x, "wanted(1), " + what, y -> y.wanted(1), many);
  }

  private void wantedLeast() {
    e.says(23, "of like ones the least; how many.");
    FigureLeave x = new FigureLeave();
    wanted(x, "all are like", 0, 100);
    x.figure(9, Edges.PLAIN, 1);
    wanted(x, "the last figure", 9, 100);
    x.figure(8, Edges.PLAIN, 1);
    // without 9 are 19 fewer, without 8 as well, 89 and 98 being of both
    wanted(x, "8 and 9 alike", 8, 81);
    x.figure(0, Edges.PLAIN, 1);
    // without 0 are but 0, 10 .. 90 fewer
    wanted(x, "0 is in fewer", 8, 72);
  }

  private void wantedTenMore() {
    e.says(23, "WANTED: the figure by which, its STRENGTH being 10 more, the most numbers CAN be WRITTEN as themselves, each alone;");
    FigureLeave x = new FigureLeave();
    Edges.wearOut(x, 7, 10, Edges.PLAIN, 4);
    wanted(x, "all with 10 more", 7, 100);
    x.figure(7, Edges.PLAIN, 3);
    wanted(x, "all but 77 with 10 more", 7, 99);
    x.figure(7, Edges.PLAIN, 2);
    wanted(x, "all but 77 still", 7, 99);
    x.figure(7, Edges.PLAIN, 1);
    wanted(x, "not enough", 0, 81);
    Edges.wearOut(x, 7, 50, Edges.PLAIN, 60);
    wanted(x, "beyond a strength of 60", 7, 100);
    e.due("the strength stays", x.of(7, 1), 60);
  }

  private void wantedNothing() {
    e.says(23, "the most numbers CAN be WRITTEN as themselves, each alone;");
    FigureLeave x = new FigureLeave();
    for (int f = 0; f < 10; f++) {
      Edges.wearOut(x, f, 60, Edges.PLAIN, 1);
    }
    wanted(x, "nothing helps", 0, 0);
    x.figure(5, Edges.PLAIN, 52);
    wanted(x, "5 alone", 5, 1);
  }
}
