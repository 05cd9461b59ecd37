import java.math.BigInteger;

/** Promises 33 to 38: part, image, from, status, count, digest. */
final class ThereEdges {
  private final Edges e;

  ThereEdges(Edges edges) {
    e = edges;
  }

  void all() {
    partNumbers();
    partParts();
    imageNumbers();
    imageKeepsAll();
    imageKeepsWhatMayBeUndone();
    imageKeepsNoMore();
    imageOverImage();
    fromNumbers();
    fromNeverMade();
    fromGoesOn();
    statusNumbers();
    statusReasons();
    countNumbers();
    countAtFirstAndFull();
    countWorn();
    digestAtFirst();
    digestFull();
    digestOrder();
  }

  private void partNumbers() {
    e.says(33, "THE FRACTION: above (0), below (1). BAD.");
    e.bounds("part(what)", FigureLeave::new, FigureLeave::part, 0, 1);
  }

  private void partParts() {
    e.says(33, "THE FRACTION: above (0), below (1).");
    FigureLeave x = new FigureLeave();
    e.harmless(x, "above at first", y -> y.part(0), 0);
    e.harmless(x, "below at first", y -> y.part(1), 1);
    x.figure(7, Edges.PLAIN, 7);
    x.odds(0, 77, 9);
    // all but the way in which all four wear: 9999 of 10000
    e.harmless(x, "the greatest above", y -> y.part(0), 9999);
    e.harmless(x, "the greatest below", y -> y.part(1), 10000);
  }

  private void imageNumbers() {
    e.says(34, "An IMAGE is kept: 1. BAD.");
    e.bounds("image(i)", FigureLeave::new, FigureLeave::image, 0, 1);
    FigureLeave x = new FigureLeave();
    e.harmless(x, "image(0)", y -> y.image(0), 1);
    e.harmless(x, "image(1)", y -> y.image(1), 1);
    e.harmless(x, "image(1) once more", y -> y.image(1), 1);
  }

  /** An object with as much of everything as it takes. */
  private static FigureLeave full() {
    FigureLeave x = new FigureLeave();
    for (int f = 0; f < 10; f++) {
      x.figure(f, f % 6, 60 - f);
    }
    for (int i = 0; i < 6; i++) {
      x.bill(99 - i, 99 - i);
      x.trace(9 - i, 40 - i);
      x.note(9 - i, i % 4, 99 - i, 20 - i);
    }
    for (int i = 0; i < 5; i++) {
      x.write(i, i);
    }
    x.night(2);
    x.pay(5);
    x.pay(1);
    x.night(1);
    x.write(0, 99);
    return x;
  }

  private void imageKeepsAll() {
    e.says(34, "IMAGES 0, 1 keep all but them, THE TEXT, THE FRACTION and STATUS;");
    for (int i = 0; i < 2; i++) {
      FigureLeave x = full();
      long had = x.digest();
      x.image(i);
      x.house();
      x.bill(1, 1);
      x.bill(2, 2);
      x.trace(1, 1);
      x.note(1, 1, 1, 1);
      x.figure(0, Edges.OLD, 1);
      x.night(60);
      e.due("from(" + i + ")", x.from(i), 1);
      e.due("digest()", x.digest(), had);
      e.due("which(NONE)", x.which(Edges.NONE), full().which(Edges.NONE));
      e.due("is(9)", x.is(9), full().is(9));
    }
  }

  private void imageKeepsWhatMayBeUndone() {
    e.says(34, "what may be undone they keep;");
    FigureLeave x = full();
    FigureLeave twin = full();
    e.due("eight may be undone", x.count(7), 8);
    x.image(0);
    for (int i = 0; i < 8; i++) {
      x.undo();
    }
    e.due("none may be undone", x.count(7), 0);
    for (int i = 0; i < 9; i++) {
      x.night(7);
    }
    x.from(0);
    for (int i = 0; i < 9; i++) {
      e.due("undo()", x.undo(), twin.undo());
      e.due("digest()", x.digest(), twin.digest());
    }
    x.house();
    x.image(0);
    x.night(1);
    x.from(0);
    e.due("an image of none to undo", x.undo(), Edges.NO);
  }

  private void imageKeepsNoMore() {
    e.says(34, "IMAGES 0, 1 keep all but them, THE TEXT, THE FRACTION and STATUS;");
    FigureLeave x = new FigureLeave();
    x.figure(7, Edges.PLAIN, 1);
    x.image(0);
    x.type('a');
    x.odds(7, 7, 3);
    x.night(0);
    x.undo();
    x.image(1);
    x.from(0);
    e.due("the text", x.count(8), 1);
    e.due("above", x.part(0), 3);
    e.due("below", x.part(1), 10);
    e.due("status(0)", x.status(0), 1);
    e.due("status(1)", x.status(1), 1);
    e.due("the other image", x.from(1), 1);
  }

  private void imageOverImage() {
    e.says(34, "An IMAGE is kept: 1.");
    FigureLeave x = new FigureLeave();
    x.night(1);
    x.image(0);
    x.night(1);
    x.image(1);
    x.night(1);
    x.image(0);
    x.from(1);
    e.due("image 1", x.count(1), 2);
    x.from(0);
    e.due("the later image 0", x.count(1), 3);
    x.undo();
    e.due("a day back", x.count(1), 2);
    x.from(0);
    e.due("the image is as it was", x.count(1), 3);
    e.due("what may be undone, too", x.count(7), 3);
  }

  private static FigureLeave withImages() {
    FigureLeave x = new FigureLeave();
    x.image(0);
    x.image(1);
    return x;
  }

  private void fromNumbers() {
    e.says(35, "It goes on from an IMAGE: 1. BAD; NO: none was kept.");
    e.bounds("from(i)", ThereEdges::withImages, FigureLeave::from, 0, 1);
    e.refused(new FigureLeave(), "from(2), BAD ahead of NO", x -> x.from(2), Edges.BAD, Edges.BAD);
    e.refused(new FigureLeave(), "from(-1), BAD ahead of NO", x -> x.from(-1), Edges.BAD, Edges.BAD);
  }

  private void fromNeverMade() {
    e.says(35, "NO: none was kept.");
    for (int i = 0; i < 2; i++) {
      int made = i;
      FigureLeave x = full();
      e.refused(x, "from(" + i + ") of none", y -> y.from(made), Edges.NO, Edges.NO);
      e.refused(x, "image(2)", y -> y.image(2), Edges.BAD, Edges.BAD);
      e.refused(x, "from(" + i + ") behind a refused image", y -> y.from(made), Edges.NO, Edges.NO);
      x.image(made);
      e.refused(x, "the other one", y -> y.from(1 - made), Edges.NO, Edges.NO);
      e.due("from(" + i + ")", x.from(made), 1);
      e.refused(x, "the other one still", y -> y.from(1 - made), Edges.NO, Edges.NO);
    }
  }

  private void fromGoesOn() {
    e.says(35, "it goes on from one.");
    FigureLeave x = new FigureLeave();
    x.bill(7, 5);
    x.image(0);
    x.pay(0);
    x.from(0);
    e.due("pay(0) once more", x.pay(0), 5);
    e.due("undo()", x.undo(), 0);
    e.refused(x, "what was ahead of from() may not be undone", FigureLeave::undo, Edges.NO, Edges.NO);
    x.bill(8, 8);
    x.from(0);
    e.due("bills of the image", x.count(0), 1);
    e.due("a bill behind them", x.bill(9, 9), 1);
  }

  private void statusNumbers() {
    e.says(36, "STATUS: BAD (0), NO (1), FULL (2). -1: another what (counts as BAD).");
    e.boundsBy("status(what)", FigureLeave::new, FigureLeave::status, 0, 2, -1);
    FigureLeave x = new FigureLeave();
    x.status(3);
    x.status(-1);
    x.status(Edges.MIN);
    e.due("three of them", x.status(0), 3);
    e.due("none is NO", x.status(1), 0);
    e.due("none is FULL", x.status(2), 0);
  }

  private void statusReasons() {
    e.says(36, "STATUS: how many calls were refused as BAD, NO, FULL (each answer told so below is such a one).");
    FigureLeave x = new FigureLeave();
    for (int i = 1; i <= 5; i++) {
      x.night(0);
      e.due("BAD", x.status(0), i);
    }
    for (int i = 1; i <= 4; i++) {
      x.undo();
      e.due("NO", x.status(1), i);
    }
    for (int i = 0; i < 9; i++) {
      x.trace(1, 1);
    }
    e.due("FULL", x.status(2), 3);
    e.due("BAD still", x.status(0), 5);
    e.due("NO still", x.status(1), 4);
    for (int i = 0; i < 400; i++) {
      x.night(61);
    }
    e.due("many", x.status(0), 405);
  }

  private void countNumbers() {
    e.says(37, "How many: 0 BILLS, 1 the DAY, 2 EARNED, 3 PAID ones (bits), 4 what all are WORN together, 5 TRACES, 6 NOTES, 7 that may be undone, 8 bytes of THE TEXT. BAD.");
    e.bounds("count(what)", ThereEdges::full, FigureLeave::count, 0, 8);
  }

  private void countAtFirstAndFull() {
    e.says(37, "How many: 0 BILLS, 1 the DAY, 2 EARNED, 3 PAID ones (bits), 4 what all are WORN together, 5 TRACES, 6 NOTES, 7 that may be undone, 8 bytes of THE TEXT.");
    FigureLeave x = new FigureLeave();
    for (int what = 0; what <= 8; what++) {
      int asked = what;
      e.harmless(x, "count(" + what + ") at first", y -> y.count(asked), 0);
    }
    for (int i = 0; i < 6; i++) {
      x.bill(i, 99);
      x.trace(i, i);
      x.note(i, 1, 1, 1);
    }
    Edges.typeAll(x, " ".repeat(150));
    Edges.sleep(x, 9999);
    for (int b = 0; b < 6; b++) {
      x.pay(b);
    }
    int[] most = {6, 9999, 594, 63, 12, 6, 6, 8, 150};
    for (int what = 0; what <= 8; what++) {
      int asked = what;
      e.harmless(x, "count(" + what + ") of all there can be", y -> y.count(asked), most[what]);
    }
    for (int b = 0; b < 6; b++) {
      x.bill(b, b);
      x.trace(1, 1);
      x.note(1, 1, 1, 1);
      x.type(' ');
      x.night(1);
    }
    e.due("bills, no more", x.count(0), 6);
    e.due("traces, no more", x.count(5), 6);
    e.due("notes, no more", x.count(6), 6);
    e.due("to be undone, no more", x.count(7), 8);
    e.due("bytes, no more", x.count(8), 150);
    e.due("the day, no more", x.count(1), 9999);
  }

  private void countWorn() {
    e.says(37, "4 what all are WORN together,");
    FigureLeave x = new FigureLeave();
    for (int f = 0; f < 10; f++) {
      Edges.wearOut(x, f, 60, Edges.PLAIN, 60);
      e.due("count(4)", x.count(4), 60 * (f + 1));
    }
    x.night(1);
    e.due("rested by three each", x.count(4), 570);
    x.night(60);
    e.due("all rested", x.count(4), 0);
  }

  private static long digestOf(int... all) {
    BigInteger h = BigInteger.valueOf(1493);
    for (int v : all) {
      h = h.multiply(BigInteger.valueOf(31)).add(BigInteger.valueOf(v));
    }
    return h.longValue();
  }

  private void digestAtFirst() {
    e.says(38, "h = 1493; then h = 31 h + v for each v: count(0) to count(8); of each figure KIND, STRENGTH, WORN;");
    FigureLeave x = new FigureLeave();
    long want = digestOf(0, 0, 0, 0, 0, 0, 0, 0, 0, 0, 20, 0, 0, 20, 0, 0, 20, 0, 0, 20, 0, 0, 20, 0,
        0, 20, 0, 0, 20, 0, 0, 20, 0, 0, 20, 0, 0, 20, 0, 0, 1);
    e.harmless(x, "digest() of a new object", FigureLeave::digest, want);
    x.night(0);
    x.undo();
    x.image(0);
    e.due("status and images are none of it", x.digest(), want);
  }

  private void digestFull() {
    e.says(38, "of each BILL number, WORTH; of each TRACE f, x; of each NOTE f, k, d, x; THE FRACTION (above, below).");
    FigureLeave x = new FigureLeave();
    for (int i = 0; i < 6; i++) {
      x.bill(99 - i, 90 - i);
      x.trace(9 - i, 40 - i);
      x.note(9 - i, i % 4, 99 - i, 20 - i);
    }
    x.figure(7, Edges.PLAIN, 7);
    x.figure(9, Edges.LAZY, 60);
    Edges.sleep(x, 9999);
    x.pay(5);
    x.odds(0, 77, 9);
    Edges.typeAll(x, " ".repeat(150));
    e.harmless(x, "digest() of all there can be", FigureLeave::digest, digestOf(6, 9999, 85, 32, 6, 6, 6, 8, 150,
        0, 20, 0, 0, 20, 0, 0, 20, 0, 0, 20, 0, 0, 20, 2, 0, 20, 0, 0, 20, 0, 0, 7, 0, 0, 20, 0, 2, 60, 4,
        99, 90, 98, 89, 97, 88, 96, 87, 95, 86, 94, 85,
        9, 40, 8, 39, 7, 38, 6, 37, 5, 36, 4, 35,
        9, 0, 99, 20, 8, 1, 98, 19, 7, 2, 97, 18, 6, 3, 96, 17, 5, 0, 95, 16, 4, 1, 94, 15,
        9999, 10000));
    x.forget(0);
    e.harmless(x, "digest() without traces", FigureLeave::digest, digestOf(6, 9999, 85, 32, 6, 0, 6, 8, 150,
        0, 20, 0, 0, 20, 0, 0, 20, 0, 0, 20, 0, 0, 20, 2, 0, 20, 0, 0, 20, 0, 0, 7, 0, 0, 20, 0, 2, 60, 4,
        99, 90, 98, 89, 97, 88, 96, 87, 95, 86, 94, 85,
        9, 0, 99, 20, 8, 1, 98, 19, 7, 2, 97, 18, 6, 3, 96, 17, 5, 0, 95, 16, 4, 1, 94, 15,
        9999, 10000));
  }

  private void digestOrder() {
    e.says(38, "h = 1493; then h = 31 h + v for each v:");
    FigureLeave x = new FigureLeave();
    x.trace(1, 2);
    x.trace(3, 4);
    FigureLeave y = new FigureLeave();
    y.trace(3, 4);
    y.trace(1, 2);
    e.due("as they come", x.digest() == y.digest() ? 1 : 0, 0);
    x = Edges.typed("ab");
    y = Edges.typed("ba");
    e.due("what the bytes are does not matter", x.digest() == y.digest() ? 1 : 0, 1);
    x.clear();
    e.due("as a new one", x.digest(), new FigureLeave().digest());
  }
}
