/** Promises 1 to 6: a new object, house, figure, bill, type, clear. */
final class HouseEdges {
  private static final int MOST_BYTES = 150;
  private final Edges e;

  HouseEdges(Edges edges) {
    e = edges;
  }

  void all() {
    newObject();
    newObjectsApart();
    houseOfNone();
    houseOfSix();
    houseKeepsImages();
    houseKeepsText();
    houseKeepsFraction();
    houseKeepsStatus();
    figureNumbers();
    figureStrength();
    figureWorn();
    figureHad();
    figureUndo();
    billNumbers();
    billWorths();
    billComes();
    billFull();
    billUndo();
    typeBytes();
    typeCounts();
    typeFull();
    clearEmpty();
    clearFull();
  }

  private void newObject() {
    e.says(1, "As told; no BILLS.");
    FigureLeave x = new FigureLeave();
    for (int what = 0; what <= 8; what++) {
      e.due("count(" + what + ")", x.count(what), 0);
    }
    e.due("read() of an empty text", x.read(), -10);
    e.due("plan(NONE)", x.plan(Edges.NONE), 0);
    e.due("most(0)", x.most(0), 0);
    e.due("which(NONE)", x.which(Edges.NONE), 10000);
    e.due("is(0)", x.is(0), 63);
    for (int why = 0; why < 3; why++) {
      e.due("status(" + why + ")", x.status(why), 0);
    }
    e.due("about(0, 0)", x.about(0, 0), Edges.BAD);
    e.due("undo()", x.undo(), Edges.NO);
    e.due("from(0)", x.from(0), Edges.NO);
    e.due("from(1)", x.from(1), Edges.NO);
  }

  private void newObjectsApart() {
    e.says(1, "As told; no BILLS.");
    FigureLeave other = full();
    other.odds(99, 99, 5);
    other.pay(99);
    FigureLeave x = new FigureLeave();
    e.due("bills of a second object", x.count(0), 0);
    e.due("digest() of a second object", x.digest(), HouseEdges.digestAtFirst(0));
    e.due("status(0) of a second object", x.status(0), 0);
    e.due("from(0) of a second object", x.from(0), Edges.NO);
  }

  private static long digestAtFirst(int bytes) {
    long h = 1493;
    for (int what = 0; what <= 8; what++) {
      h = 31 * h + (what == 8 ? bytes : 0);
    }
    for (int f = 0; f < 10; f++) {
      h = 31 * (31 * (31 * h + 0) + 20) + 0;
    }
    return 31 * (31 * h + 0) + 1;
  }

  /** An object with as much in it as it takes. */
  private static FigureLeave full() {
    FigureLeave x = new FigureLeave();
    Edges.allFigures(x, Edges.OLD, 60);
    for (int i = 0; i < 6; i++) {
      x.bill(99 - i, 99);
      x.trace(i, 40);
      x.note(i, 3, 99, 20);
    }
    for (int i = 0; i < 8; i++) {
      x.write(i, i);
    }
    x.pay(0);
    x.image(0);
    return x;
  }

  private void houseOfNone() {
    e.says(2, "All as at first (but for IMAGES, THE TEXT, THE FRACTION, STATUS): how many BILLS there were.");
    FigureLeave x = new FigureLeave();
    e.due("house() of a new object", x.house(), 0);
    e.due("house() again", x.house(), 0);
    x.bill(0, 0);
    e.due("house() of one bill", x.house(), 1);
    e.due("house() behind it", x.house(), 0);
    e.due("digest()", x.digest(), digestAtFirst(0));
  }

  private void houseOfSix() {
    e.says(2, "All as at first (but for IMAGES, THE TEXT, THE FRACTION, STATUS): how many BILLS there were.");
    FigureLeave x = full();
    Edges.sleep(x, 9999);
    e.due("house()", x.house(), 6);
    e.due("digest()", x.digest(), digestAtFirst(0));
    e.due("undo()", x.undo(), Edges.NO);
    e.due("a bill is the first again", x.bill(1, 1), 0);
    e.due("it is not paid", x.about(0, 2), 0);
    e.due("a trace is the first again", x.trace(1, 1), 1);
    e.due("a note is the first again", x.note(1, 1, 1, 1), 1);
  }

  private void houseKeepsImages() {
    e.says(2, "(but for IMAGES, THE TEXT, THE FRACTION, STATUS)");
    FigureLeave x = full();
    x.house();
    e.due("from(0)", x.from(0), 1);
    e.due("bills of the image", x.count(0), 6);
    e.due("what may be undone, of the image", x.count(7), 8);
    x.house();
    e.due("from(1) that was never made", x.from(1), Edges.NO);
  }

  private void houseKeepsText() {
    e.says(2, "(but for IMAGES, THE TEXT, THE FRACTION, STATUS)");
    FigureLeave x = Edges.typed("house;night 7;");
    x.house();
    e.due("count(8)", x.count(8), 14);
    e.due("digest()", x.digest(), digestAtFirst(14));
    e.due("read()", x.read(), 2);
    e.due("the day", x.count(1), 7);
  }

  private void houseKeepsFraction() {
    e.says(2, "(but for IMAGES, THE TEXT, THE FRACTION, STATUS)");
    FigureLeave x = new FigureLeave();
    x.figure(7, Edges.PLAIN, 1);
    x.odds(7, 7, 3);
    x.house();
    e.due("part(0)", x.part(0), 3);
    e.due("part(1)", x.part(1), 10);
  }

  private void houseKeepsStatus() {
    e.says(2, "(but for IMAGES, THE TEXT, THE FRACTION, STATUS)");
    FigureLeave x = full();
    x.bill(-1, 0);
    x.pay(0);
    x.pay(0);
    x.bill(1, 1);
    x.trace(1, 1);
    x.note(1, 1, 1, 1);
    x.house();
    e.due("status(0)", x.status(0), 1);
    e.due("status(1)", x.status(1), 2);
    e.due("status(2)", x.status(2), 3);
  }

  private void figureNumbers() {
    e.says(3, "KIND, STRENGTH of a figure (it is WORN as it was): 100 times the KIND, and the STRENGTH, it had. BAD.");
    e.bounds("figure(f, 0, 20)", FigureLeave::new, (x, n) -> x.figure(n, 0, 20), 0, 9);
    e.bounds("figure(0, kind, 20)", FigureLeave::new, (x, n) -> x.figure(0, n, 20), 0, 5);
    FigureLeave x = new FigureLeave();
    e.refused(x, "figure(10, 6, 61)", y -> y.figure(10, 6, 61), Edges.BAD, Edges.BAD);
  }

  private void figureStrength() {
    e.says(3, "with STRENGTH (1 .. 60; 20 at first)");
    e.bounds("figure(9, 5, strength)", FigureLeave::new, (x, n) -> x.figure(9, 5, n), 1, 60);
    FigureLeave x = new FigureLeave();
    x.figure(9, Edges.PLAIN, 60);
    for (int i = 0; i < 30; i++) {
      e.due("write(9, 9)", x.write(9, 9), 2);
    }
    e.due("write(9, 9) of a 9 worn by 60", x.write(9, 9), Edges.NO);
    x.figure(8, Edges.PLAIN, 1);
    e.due("write(8, 8) with a strength of 1", x.write(8, 8), Edges.NO);
  }

  private void figureWorn() {
    e.says(3, "(it is WORN as it was)");
    FigureLeave x = new FigureLeave();
    x.write(77, 77);
    x.figure(7, Edges.OLD, 60);
    e.due("worn as it was", x.of(7, 2), 4);
    x.figure(7, Edges.PLAIN, 1);
    e.due("worn by more than its strength", x.of(7, 2), 4);
    e.due("all together", x.count(4), 4);
  }

  private void figureHad() {
    e.says(3, "100 times the KIND, and the STRENGTH, it had.");
    FigureLeave x = new FigureLeave();
    e.due("of a new object", x.figure(0, 5, 60), 20);
    e.due("the greatest", x.figure(0, 0, 1), 560);
    e.due("the least", x.figure(0, 0, 1), 1);
    e.due("another figure", x.figure(9, 0, 20), 20);
    x.figure(10, 0, 1);
    x.figure(0, 6, 1);
    x.figure(0, 5, 0);
    e.due("behind refused ones", x.figure(0, 0, 1), 1);
  }

  private void figureUndo() {
    e.says(3, "behind a figure told, a BILL that comes none may be)");
    FigureLeave x = new FigureLeave();
    x.write(1, 1);
    x.night(1);
    x.figure(3, Edges.PLAIN, 61);
    x.figure(3, 6, 20);
    x.figure(10, Edges.PLAIN, 20);
    e.due("refused ones leave what may be undone", x.count(7), 2);
    x.figure(3, Edges.PLAIN, 20);
    e.due("one that is told as it was", x.count(7), 0);
    e.due("undo()", x.undo(), Edges.NO);
    e.due("the day stays", x.count(1), 1);
  }

  private void billNumbers() {
    e.says(4, "A BILL: its number. BAD; FULL: 6.");
    e.bounds("bill(v, 0)", FigureLeave::new, (x, n) -> x.bill(n, 0), 0, 99);
    FigureLeave x = new FigureLeave();
    e.refused(x, "bill(100, 100)", y -> y.bill(100, 100), Edges.BAD, Edges.BAD);
  }

  private void billWorths() {
    e.says(4, "a number, a WORTH (0 .. 99); PAID or not.");
    e.bounds("bill(0, worth)", FigureLeave::new, (x, n) -> x.bill(0, n), 0, 99);
    FigureLeave x = new FigureLeave();
    x.bill(99, 0);
    x.bill(0, 99);
    e.due("about(0, 0)", x.about(0, 0), 99);
    e.due("about(0, 1)", x.about(0, 1), 0);
    e.due("about(1, 0)", x.about(1, 0), 0);
    e.due("about(1, 1)", x.about(1, 1), 99);
    e.due("about(0, 2)", x.about(0, 2), 0);
    e.due("about(1, 2)", x.about(1, 2), 0);
  }

  private void billComes() {
    e.says(4, "BILLS 0 .. 5, as they come:");
    FigureLeave x = new FigureLeave();
    for (int b = 0; b < 6; b++) {
      e.due("bill", x.bill(50 - b, b), b);
      e.due("count(0)", x.count(0), b + 1);
    }
    for (int b = 0; b < 6; b++) {
      e.due("about(" + b + ", 0)", x.about(b, 0), 50 - b);
      e.due("about(" + b + ", 1)", x.about(b, 1), b);
    }
    e.due("about(6, 0)", x.about(6, 0), Edges.BAD);
  }

  private static FigureLeave sixBills() {
    FigureLeave x = new FigureLeave();
    for (int b = 0; b < 6; b++) {
      x.bill(b, b);
    }
    return x;
  }

  private void billFull() {
    e.says(4, "FULL: 6.");
    FigureLeave x = sixBills();
    e.refused(x, "a 7th bill", y -> y.bill(1, 1), Edges.FULL, Edges.FULL);
    e.refused(x, "BAD ahead of FULL, the number", y -> y.bill(100, 1), Edges.BAD, Edges.BAD);
    e.refused(x, "BAD ahead of FULL, the worth", y -> y.bill(1, -1), Edges.BAD, Edges.BAD);
    x.pay(0);
    e.refused(x, "though one is paid", y -> y.bill(1, 1), Edges.FULL, Edges.FULL);
    x.house();
    e.due("behind house()", x.bill(1, 1), 0);
  }

  private void billUndo() {
    e.says(4, "behind a figure told, a BILL that comes none may be)");
    FigureLeave x = new FigureLeave();
    x.night(1);
    x.bill(-1, 0);
    x.bill(0, 100);
    e.due("refused as BAD", x.count(7), 1);
    x.bill(0, 0);
    e.due("one that comes", x.count(7), 0);
    e.due("undo()", x.undo(), Edges.NO);
    x = sixBills();
    x.night(1);
    x.bill(0, 0);
    e.due("refused as FULL", x.count(7), 1);
    e.due("undo() behind it", x.undo(), 0);
  }

  private void typeBytes() {
    e.says(5, "A byte (0 .. 127) comes behind THE TEXT: how many it has. BAD; FULL.");
    e.bounds("type(c)", FigureLeave::new, FigureLeave::type, 0, 127);
  }

  private void typeCounts() {
    e.says(5, "how many it has.");
    FigureLeave x = new FigureLeave();
    for (int i = 1; i <= MOST_BYTES; i++) {
      e.due("type", x.type(i % 128), i);
      e.due("count(8)", x.count(8), i);
    }
  }

  private static FigureLeave fullText() {
    return Edges.typed("house;" + " ".repeat(MOST_BYTES - 6));
  }

  private void typeFull() {
    e.says(5, "a TEXT (150 bytes at most)");
    FigureLeave x = fullText();
    e.due("count(8)", x.count(8), MOST_BYTES);
    e.refused(x, "a 151st byte", y -> y.type('x'), Edges.FULL, Edges.FULL);
    e.refused(x, "BAD ahead of FULL", y -> y.type(128), Edges.BAD, Edges.BAD);
    e.refused(x, "BAD ahead of FULL", y -> y.type(-1), Edges.BAD, Edges.BAD);
    e.due("the text is as it was", x.read(), 1);
    x.clear();
    for (int i = 1; i < MOST_BYTES; i++) {
      x.type(' ');
    }
    e.due("the 150th", x.type(' '), MOST_BYTES);
    e.due("the 151st", x.type(' '), Edges.FULL);
  }

  private void clearEmpty() {
    e.says(6, "THE TEXT is empty: how many it had.");
    FigureLeave x = new FigureLeave();
    e.harmless(x, "clear() of an empty text", FigureLeave::clear, 0);
    x.type('h');
    e.due("clear() of one byte", x.clear(), 1);
    e.due("clear() behind it", x.clear(), 0);
    e.due("count(8)", x.count(8), 0);
    e.due("read() of an empty text", x.read(), -10);
    e.due("the first byte again", x.type('h'), 1);
  }

  private void clearFull() {
    e.says(6, "THE TEXT is empty: how many it had.");
    FigureLeave x = fullText();
    e.due("clear() of a full text", x.clear(), MOST_BYTES);
    Edges.typeAll(x, "house");
    e.due("nothing stands behind the new text", x.read(), -15);
    x.type(';');
    e.due("read()", x.read(), 1);
  }
}
