/** How calls are refused, and what STATUS counts: for every call that may be refused, by every reason that it has. */
final class RefusedEdges {
  private final Edges e;

  RefusedEdges(Edges edges) {
    e = edges;
  }

  void all() {
    changesNothing();
    bads();
    nos();
    fulls();
    badAheadOfNo();
    badAheadOfFull();
    othersCountAsThese();
    countedOnce();
    noneIsNotRefused();
    faultIsNotRefused();
    notSoManyIsNotRefused();
    neverRefused();
  }

  private static final int[] OUT = {Edges.MIN, Edges.MIN + 1, -1000, -10, -2, 1000000, Edges.MAX - 1, Edges.MAX};

  /** As full as it can be, so that all three reasons are there to be met: bill 0 is paid, bill 1 can not be. */
  private static FigureLeave full() {
    FigureLeave x = new FigureLeave();
    x.figure(7, Edges.PLAIN, 1);
    for (int b = 0; b < 6; b++) {
      x.bill(b == 1 ? 7 : b, 10 + b);
      x.trace(b, 2);
      x.note(b, 1, 1, 2);
    }
    Edges.typeAll(x, "house;figure 7 0 1;write 7 7;" + " ".repeat(121));
    x.odds(77, 77, 3);
    x.pay(0);
    x.write(44, 44);
    x.night(1);
    x.image(0);
    x.pay(2);
    return x;
  }

  private static void refuseAll(FigureLeave x) {
    for (int n : OUT) {
      x.figure(n, 0, 1);
      x.figure(0, n, 1);
      x.figure(0, 0, n);
      x.bill(n, 0);
      x.bill(0, n);
      x.type(n);
      x.write(n, 0);
      x.write(0, n);
      x.pay(n);
      x.night(n);
      x.of(n, 0);
      x.of(0, n);
      x.about(n, 0);
      x.about(0, n);
      x.wears(n, 0);
      x.wears(0, n);
      x.cost(n, 0);
      x.cost(0, n);
      x.can(n, 0);
      x.can(0, n);
      x.best(n);
      x.when(n, 0);
      x.when(0, n);
      x.most(n);
      x.plan(n);
      x.wanted(n);
      x.trace(n, 0);
      x.trace(0, n);
      x.which(n);
      x.note(n, 0, 0, 0);
      x.note(0, n, 0, 0);
      x.note(0, 0, n, 0);
      x.note(0, 0, 0, n);
      x.forget(n);
      x.is(n);
      x.look(n);
      x.two(n, 1);
      x.two(1, n);
      x.odds(n, 0, 0);
      x.odds(0, n, 0);
      x.odds(0, 0, n);
      x.years(n, 1);
      x.years(1, n);
      x.part(n);
      x.image(n);
      x.from(n);
      x.status(n);
      x.count(n);
    }
    x.bill(1, 1);
    x.type(' ');
    x.trace(1, 1);
    x.note(1, 1, 1, 1);
    x.write(7, 7);
    x.pay(0);
    x.pay(1);
    x.two(0, 1);
    x.from(1);
    x.read();
  }

  private void changesNothing() {
    e.says(Edges.TERMS, "Refused, changing nothing but STATUS,");
    FigureLeave x = full();
    FigureLeave twin = full();
    refuseAll(x);
    e.due("status(0)", x.status(0), OUT.length * 48 - bigWhich());
    e.due("status(1)", x.status(1), 5);
    e.due("status(2)", x.status(2), 4);
    e.due("digest()", x.digest(), twin.digest());
    while (twin.count(7) > 0) {
      e.due("undo()", x.undo(), twin.undo());
      e.due("digest()", x.digest(), twin.digest());
    }
    e.due("from(0)", x.from(0), twin.from(0));
    e.due("digest() of the image", x.digest(), twin.digest());
    while (twin.count(7) > 0) {
      e.due("undo()", x.undo(), twin.undo());
      e.due("digest()", x.digest(), twin.digest());
    }
    e.due("the text", x.read(), twin.read());
    e.due("which(NONE)", x.which(Edges.NONE), twin.which(Edges.NONE));
    for (int f = 0; f < 10; f++) {
      e.due("is(" + f + ")", x.is(f), twin.is(f));
    }
  }

  /** To which a k is never too great. */
  private static int bigWhich() {
    int sum = 0;
    for (int n : OUT) {
      sum += n > 0 ? 1 : 0;
    }
    return sum;
  }

  private void bad(String call, Edges.Call c) {
    e.refused(full(), call, c, Edges.BAD, Edges.BAD);
  }

  private void bads() {
    e.says(Edges.TERMS, "BAD -2 a number is not as told;");
    bad("figure", x -> x.figure(10, 0, 1));
    bad("bill", x -> x.bill(100, 0));
    bad("type", x -> x.type(128));
    bad("write", x -> x.write(0, 100));
    bad("pay", x -> x.pay(6));
    bad("night", x -> x.night(0));
    bad("of", x -> x.of(0, 5));
    bad("about", x -> x.about(0, 3));
    bad("wears", x -> x.wears(0, 4));
    bad("cost", x -> x.cost(0, 100));
    bad("can", x -> x.can(0, 100));
    bad("best", x -> x.best(100));
    bad("when", x -> x.when(0, 100));
    bad("most", x -> x.most(2));
    bad("wanted", x -> x.wanted(2));
    bad("trace", x -> x.trace(0, 41));
    bad("note", x -> x.note(0, 0, 0, 21));
    bad("forget", x -> x.forget(2));
    bad("is", x -> x.is(10));
    bad("look", x -> x.look(10));
    bad("two", x -> x.two(3, 3));
    bad("odds", x -> x.odds(0, 0, 11));
    bad("years", x -> x.years(1000000, 0));
    bad("part", x -> x.part(2));
    bad("image", x -> x.image(2));
    bad("from", x -> x.from(2));
    bad("count", x -> x.count(9));
  }

  private void nos() {
    e.says(Edges.TERMS, "NO -3 as told;");
    e.refused(full(), "write that can not be", x -> x.write(7, 7), Edges.NO, Edges.NO);
    e.refused(full(), "pay of a paid one", x -> x.pay(0), Edges.NO, Edges.NO);
    e.refused(full(), "pay that can not be", x -> x.pay(1), Edges.NO, Edges.NO);
    e.refused(new FigureLeave(), "undo of none", FigureLeave::undo, Edges.NO, Edges.NO);
    e.refused(full(), "two, one being paid", x -> x.two(3, 0), Edges.NO, Edges.NO);
    e.refused(full(), "from of none", x -> x.from(1), Edges.NO, Edges.NO);
  }

  private void fulls() {
    e.says(Edges.TERMS, "FULL -4 (where others are told they count as these).");
    e.refused(full(), "bill", x -> x.bill(0, 0), Edges.FULL, Edges.FULL);
    e.refused(full(), "type", x -> x.type(0), Edges.FULL, Edges.FULL);
    e.refused(full(), "trace", x -> x.trace(0, 0), Edges.FULL, Edges.FULL);
    e.refused(full(), "note", x -> x.note(0, 0, 0, 0), Edges.FULL, Edges.FULL);
  }

  private void badAheadOfNo() {
    e.says(Edges.TERMS, "the first of: BAD -2 a number is not as told; NO -3 as told;");
    bad("write, x", x -> x.write(7, 100));
    bad("write, v", x -> x.write(-1, 77));
    bad("two, alike and paid", x -> x.two(0, 0));
    bad("two, one paid and one that is none", x -> x.two(0, 6));
    bad("two, one that is none and one paid", x -> x.two(-1, 0));
    e.refused(new FigureLeave(), "from", x -> x.from(2), Edges.BAD, Edges.BAD);
  }

  private void badAheadOfFull() {
    e.says(Edges.TERMS, "the first of: BAD -2 a number is not as told; NO -3 as told; FULL -4");
    bad("bill, v", x -> x.bill(-1, 0));
    bad("bill, worth", x -> x.bill(0, -1));
    bad("type", x -> x.type(-1));
    bad("trace, f", x -> x.trace(-1, 0));
    bad("trace, x", x -> x.trace(0, -1));
    bad("note, f", x -> x.note(-1, 0, 0, 0));
    bad("note, k", x -> x.note(0, -1, 0, 0));
    bad("note, d", x -> x.note(0, 0, -1, 0));
    bad("note, x", x -> x.note(0, 0, 0, -1));
  }

  private void othersCountAsThese() {
    e.says(Edges.TERMS, "(where others are told they count as these)");
    e.refused(full(), "plan(6)", x -> x.plan(6), -10, Edges.BAD);
    e.refused(full(), "plan(-2)", x -> x.plan(-2), -10, Edges.BAD);
    e.refused(full(), "which(-2)", x -> x.which(-2), -10, Edges.BAD);
    e.refused(full(), "status(3)", x -> x.status(3), -1, Edges.BAD);
    e.refused(full(), "status(-1)", x -> x.status(-1), -1, Edges.BAD);
  }

  private void countedOnce() {
    e.says(Edges.TERMS, "STATUS: how many calls were refused as BAD, NO, FULL");
    bad("figure with three wrong numbers", x -> x.figure(-1, -1, -1));
    bad("note with four wrong numbers", x -> x.note(-1, -1, -1, -1));
    bad("of with two wrong numbers", x -> x.of(-1, -1));
    bad("about with two wrong numbers", x -> x.about(-1, -1));
    bad("two with two wrong numbers", x -> x.two(-1, 6));
    bad("odds with three wrong numbers", x -> x.odds(-1, -1, -1));
    bad("years with two wrong numbers", x -> x.years(-1, -1));
    e.refused(full(), "two, both being paid", x -> x.two(0, 2), Edges.NO, Edges.NO);
  }

  private void noneIsNotRefused() {
    e.says(Edges.TERMS, "(each answer told so below is such a one)");
    FigureLeave x = new FigureLeave();
    Edges.allFigures(x, Edges.PLAIN, 1);
    x.bill(7, 7);
    x.note(1, 0, 0, 20);
    e.harmless(x, "best(7)", y -> y.best(7), Edges.NONE);
    e.harmless(x, "when(7, 7)", y -> y.when(7, 7), Edges.NONE);
    e.harmless(x, "plan(NONE)", y -> y.plan(Edges.NONE), Edges.NONE);
    e.harmless(x, "plan(0)", y -> y.plan(0), Edges.NONE);
    e.harmless(x, "look(1)", y -> y.look(1), Edges.NONE);
    e.harmless(x, "can(7, 7)", y -> y.can(7, 7), 0);
    e.harmless(new FigureLeave(), "first()", FigureLeave::first, Edges.NONE);
  }

  private void faultIsNotRefused() {
    e.says(7, "-10 less the FAULT: all stays.");
    e.harmless(full(), "read() of a line that can not be", FigureLeave::read, -37);
    e.harmless(new FigureLeave(), "read() of an empty text", FigureLeave::read, -10);
  }

  private void notSoManyIsNotRefused() {
    e.says(25, "-5: not so many.");
    e.harmless(new FigureLeave(), "which(10000)", x -> x.which(10000), -5);
    e.harmless(new FigureLeave(), "which(MAX)", x -> x.which(Edges.MAX), -5);
  }

  private void neverRefused() {
    e.says(Edges.TERMS, "STATUS: how many calls were refused as BAD, NO, FULL");
    FigureLeave x = full();
    x.house();
    x.clear();
    x.read();
    x.first();
    x.counts();
    x.digest();
    x.house();
    for (int why = 0; why < 3; why++) {
      e.due("status(" + why + ")", x.status(why), 0);
    }
  }
}
