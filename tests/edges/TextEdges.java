/** Promise 7: read, and what "Terms" says of THE HOUSE that is told by a text. */
final class TextEdges {
  private final Edges e;

  TextEdges(Edges edges) {
    e = edges;
  }

  void all() {
    items();
    mostBytes();
    houseItem();
    figureItem();
    billItem();
    writeItem();
    nightItem();
    endedBySemicolon();
    words();
    figuresOfNumbers();
    blanks();
    blanksNeeded();
    wordThatIsNone();
    houseAgain();
    aheadOfHouse();
    seventhBill();
    longRun();
    numberNotAsTold();
    canNotBe();
    canNotBeThen();
    byteThatBeginsNone();
    firstToken();
    endsTooEarly();
    emptyText();
    takesThePlace();
    keeps();
    faultLeavesAll();
  }

  private FigureLeave reads(String text, int want) {
    FigureLeave x = Edges.typed(text);
    e.due("read() of '" + text + "'", x.read(), want);
    return x;
  }

  /** The fault's place is where the sign | stands in the text, which is none of it. */
  private void faultAt(String marked) {
    int place = marked.indexOf('|');
    String text = marked.substring(0, place) + marked.substring(place + 1);
    FigureLeave x = Edges.typed(text);
    e.harmless(x, "read() of '" + text + "'", FigureLeave::read, -10 - place);
  }

  private void items() {
    e.says(7, "THE HOUSE is read: how many ITEMS.");
    reads("house;", 1);
    reads("house;night 1;", 2);
    reads("house;figure 0 0 1;bill 0 0;write 1 1;night 1;", 5);
    reads("house;" + "night1;".repeat(20), 21);
    reads("house;" + "night1;".repeat(20) + "    ", 21);
  }

  private void mostBytes() {
    e.says(7, "THE HOUSE is told by a TEXT (150 bytes at most) of ITEMS, each ended by ;");
    reads("house;" + " ".repeat(135) + "night 60;", 2);
    reads("house;" + " ".repeat(144), 1);
    faultAt("house;" + " ".repeat(136) + "night 60|");
    faultAt("house;" + " ".repeat(139) + "night|");
    faultAt("house;" + " ".repeat(143) + "|;");
    faultAt("house;" + " ".repeat(143) + "|7");
    faultAt("house;" + " ".repeat(143) + "|n");
    faultAt("house;" + " ".repeat(138) + "figure|");
    faultAt("house;" + "night1;".repeat(20) + "|nigh");
    FigureLeave x = Edges.typed("house;" + " ".repeat(136) + "night 60");
    e.due("the 151st byte is refused", x.type(';'), Edges.FULL);
    e.due("so that the text ends too early", x.read(), -160);
  }

  private void houseItem() {
    e.says(7, "house (once, first of all);");
    FigureLeave x = reads("house;", 1);
    e.due("bills", x.count(0), 0);
    e.due("day", x.count(1), 0);
    e.due("worn", x.count(4), 0);
    faultAt("house|");
    faultAt("house;|house;");
    faultAt("|night 1;house;");
    faultAt("house |0;");
  }

  private void figureItem() {
    e.says(7, "figure f KIND STRENGTH;");
    FigureLeave x = reads("house;figure 0 0 1;figure 9 5 60;", 3);
    e.due("kind of 0", x.of(0, 0), 0);
    e.due("strength of 0", x.of(0, 1), 1);
    e.due("kind of 9", x.of(9, 0), 5);
    e.due("strength of 9", x.of(9, 1), 60);
    e.due("strength of 1", x.of(1, 1), 20);
    x = reads("house;figure 4 1 3;figure 4 2 5;", 3);
    e.due("the last that is told", x.of(4, 0) * 100 + x.of(4, 1), 205);
    faultAt("house;figure |10 0 20;");
    faultAt("house;figure |99 0 20;");
    faultAt("house;figure 0 |6 20;");
    faultAt("house;figure 0 |10 20;");
    faultAt("house;figure 0 0 |0;");
    faultAt("house;figure 0 0 |00;");
    faultAt("house;figure 0 0 |61;");
    faultAt("house;figure 0 0 20 |1;");
    faultAt("house;figure 0 0|;");
    faultAt("house;figure 0|;");
    faultAt("house;figure|;");
  }

  private void billItem() {
    e.says(7, "bill v WORTH;");
    FigureLeave x = reads("house;bill 0 99;bill 99 0;", 3);
    e.due("bills", x.count(0), 2);
    e.due("about(0, 0)", x.about(0, 0), 0);
    e.due("about(0, 1)", x.about(0, 1), 99);
    e.due("about(1, 0)", x.about(1, 0), 99);
    e.due("about(1, 1)", x.about(1, 1), 0);
    e.due("paid", x.count(3), 0);
    faultAt("house;bill |100 0;");
    faultAt("house;bill 0 |100;");
    faultAt("house;bill 0 0 |0;");
    faultAt("house;bill 0|;");
    faultAt("house;bill|;");
  }

  private void writeItem() {
    e.says(7, "write v x (WRITTEN);");
    FigureLeave x = reads("house;write 0 99;write 99 0;", 3);
    e.due("worn 9", x.of(9, 2), 12);
    e.due("worn 0", x.of(0, 2), 2);
    e.due("not to be undone", x.count(7), 0);
    faultAt("house;write |100 0;");
    faultAt("house;write 0 |100;");
    faultAt("house;write 0 0 |0;");
    faultAt("house;write 0|;");
    faultAt("house;write|;");
  }

  private void nightItem() {
    e.says(7, "night n (1 .. 60 NIGHTS).");
    FigureLeave x = reads("house;write 77 77;night 1;", 3);
    e.due("day", x.count(1), 1);
    e.due("worn 7", x.of(7, 2), 1);
    x = reads("house;night 60;", 2);
    e.due("day", x.count(1), 60);
    e.due("not to be undone", x.count(7), 0);
    x = reads("house;" + "night60;".repeat(18), 19);
    e.due("the farthest day of a text", x.count(1), 1080);
    faultAt("house;night |0;");
    faultAt("house;night |00;");
    faultAt("house;night |61;");
    faultAt("house;night |99;");
    faultAt("house;night 1 |1;");
    faultAt("house;night|;");
  }

  private void endedBySemicolon() {
    e.says(7, "of ITEMS, each ended by ;");
    faultAt("house|");
    faultAt("house |night 1;");
    faultAt("house;night 1|");
    faultAt("house;night 1 |night 1;");
    faultAt("house;|;");
    faultAt("house;night 1;|;");
    faultAt("|;");
    faultAt("house|,");
    faultAt("house|:");
    faultAt("house;night 1|:");
  }

  private void words() {
    e.says(7, "TOKENS: words of letters a .. z,");
    faultAt("|House;");
    faultAt("|HOUSE;");
    faultAt("house|A;");
    faultAt("house|`;");
    faultAt("house|{;");
    faultAt("|housea;");
    faultAt("|housez;");
    faultAt("|ahouse;");
    faultAt("|zhouse;");
    faultAt("house|@;");
    faultAt("house|[;");
  }

  private void figuresOfNumbers() {
    e.says(7, "figures (1 or 2 are one number),");
    FigureLeave x = reads("house;figure 07 01 09;", 2);
    e.due("kind of 7", x.of(7, 0), 1);
    e.due("strength of 7", x.of(7, 1), 9);
    x = reads("house;bill 00 00;bill 09 90;night 01;", 4);
    e.due("number of 00", x.about(0, 0), 0);
    e.due("worth of 00", x.about(0, 1), 0);
    e.due("number of 09", x.about(1, 0), 9);
    e.due("worth of 90", x.about(1, 1), 90);
    faultAt("house;night |001;");
    faultAt("house;night 1|/");
    faultAt("house;night 1|:");
    faultAt("house;night |-1;");
    faultAt("house;night |+1;");
    faultAt("house;night 1|.0;");
  }

  private void blanks() {
    e.says(7, "any number of blanks (32) ahead of, between, behind them");
    reads("   house;", 1);
    reads("house   ;", 1);
    reads("house;   ", 1);
    reads("   house   ;   night   7   ;   ", 2);
    reads(" ".repeat(144) + "house;", 1);
    reads("house" + " ".repeat(144) + ";", 1);
    reads("house;night" + " ".repeat(136) + "60;", 2);
    faultAt("house|\t;");
    faultAt("house;|\n");
    faultAt("house|\r;");
    faultAt("|\0house;");
    faultAt("house" + (char) 31 + ";", 5);
    faultAt("house!;", 5);
  }

  private void faultAt(String text, int place) {
    e.harmless(Edges.typed(text), "read() of '" + text + "'", FigureLeave::read, -10 - place);
  }

  private void blanksNeeded() {
    e.says(7, "(needed only between two words, two numbers)");
    FigureLeave x = reads("house;figure3 1 9;bill4 5;write6 6;night2;", 5);
    e.due("figure3", x.of(3, 0), 1);
    e.due("bill4", x.about(0, 0), 4);
    e.due("write6 and night2", x.of(6, 2), 0);
    e.due("night2", x.count(1), 2);
    faultAt("house;night 1|bill 1 1;");
    faultAt("|housenight 1;");
    faultAt("house;|nightnight 1;");
    x = reads("house;bill 12 3;", 2);
    e.due("12 and 3", x.about(0, 0) * 100 + x.about(0, 1), 1203);
    faultAt("house;bill 12|;");
    faultAt("house;bill |123;");
  }

  private void wordThatIsNone() {
    e.says(7, "(a word that is none,");
    faultAt("|hous;");
    faultAt("|x;");
    faultAt("|xouse;");
    faultAt("|housx;");
    faultAt("house;|xigure 1 1 1;");
    faultAt("house;|xill 1 1;");
    faultAt("house;|xrite 1 1;");
    faultAt("house;|xight 1;");
    faultAt("house;|nigh 1;");
    faultAt("house;|nights 1;");
    faultAt("house;|figures 1 1 1;");
    faultAt("house;|bil 1 1;");
    faultAt("house;|bills 1 1;");
    faultAt("house;|writ 1 1;");
    faultAt("house;|undo;");
    faultAt("house;night 1;  |a");
    faultAt("house |a;");
    faultAt("house;night |a;");
    faultAt("house;bill 1 |bill;");
  }

  private void houseAgain() {
    e.says(7, "house again,");
    faultAt("house;|house;");
    faultAt("house; |house");
    faultAt("house |house;");
    faultAt("house;night 1;|house;");
    faultAt("house;night |house;");
  }

  private void aheadOfHouse() {
    e.says(7, "anything ahead of it,");
    faultAt("|figure 1 1 1;house;");
    faultAt("|bill 1 1;house;");
    faultAt("|write 1 1;house;");
    faultAt("|night 1;house;");
    faultAt("  |night 1;");
    faultAt("|;house;");
    faultAt("|1house;");
    faultAt("|7;");
    faultAt("house|1;");
  }

  private void seventhBill() {
    e.says(7, "a 7th bill at its word,");
    String six = "house;bill 1 1;bill 2 2;bill 3 3;bill 4 4;bill 5 5;bill 6 6;";
    FigureLeave x = reads(six, 7);
    e.due("six bills", x.count(0), 6);
    e.due("the last one's number", x.about(5, 0), 6);
    faultAt(six + "|bill 7 7;");
    faultAt(six + "|bill");
    faultAt(six + "  |bill 100 7;");
    faultAt(six + "night 1;|bill 7 7;");
    reads(six + "night 1;", 8);
  }

  private void longRun() {
    e.says(7, "a run of three figures or more (at its first one),");
    faultAt("house;night |001;");
    faultAt("house;night |100;");
    faultAt("house;bill 1 |1234567890;");
    faultAt("house;figure |000 0 20;");
    faultAt("house;write 5 |005;");
    faultAt("house;|123;");
    faultAt("|000;");
    faultAt("house;night |" + "9".repeat(138));
  }

  private void numberNotAsTold() {
    e.says(7, "a number not as told,");
    faultAt("house;figure |10 9 99;");
    faultAt("house;figure 9 |6 99;");
    faultAt("house;figure 9 5 |61;");
    faultAt("house;figure 9 5 |0;");
    faultAt("house;night |0;");
    faultAt("house;night |61;");
    faultAt("house;night |61");
    faultAt("house;|5;");
    faultAt("house;night 5 |5;");
  }

  private void canNotBe() {
    e.says(7, "an x by which v CAN not be WRITTEN then,");
    reads("house;figure 7 0 2;write 7 7;", 3);
    faultAt("house;figure 7 0 1;write 7 |7;");
    faultAt("house;figure 7 0 1;write 7   |7");
    faultAt("house;figure 7 0 1;write 0 |77 9;");
    reads("house;figure 7 0 1;write 7 9;", 3);
    faultAt("house;figure 0 0 7;write 00 00;write 0 00;write 0 0;write 0 |0;");
  }

  private void canNotBeThen() {
    e.says(7, "an x by which v CAN not be WRITTEN then,");
    reads("house;figure 7 0 2;write 7 7;night 1;write 7 7;", 5);
    faultAt("house;figure 7 0 2;write 7 7;write 7 |7;night 1;");
    reads("house;figure 7 3 1;night 6;write 77 77;", 4);
    faultAt("house;figure 7 3 1;night 5;write 77 |77;");
    FigureLeave x = Edges.onDay(6);
    x.figure(7, Edges.PLAIN, 1);
    Edges.typeAll(x, "house;write 7 7;figure 7 0 1;");
    e.due("what was ahead of the house does not matter", x.read(), 3);
    e.due("a figure told behind the line", x.of(7, 2), 2);
    x = Edges.onDay(6);
    Edges.typeAll(x, "house;figure 7 3 1;write 7 7;");
    e.due("the house begins on day 0, no sunday", x.read(), -37);
  }

  private void byteThatBeginsNone() {
    e.says(7, "a byte that begins none, too);");
    for (int c = 0; c < 128; c++) {
      boolean begins = c == ' ' || c == ';' || c >= '0' && c <= '9' || c >= 'a' && c <= 'z';
      if (!begins) {
        faultAt("house" + (char) c + ";", 5);
        faultAt("house;" + (char) c, 6);
        faultAt("house;night 2" + (char) c + ";", 13);
      }
    }
  }

  private void firstToken() {
    e.says(7, "FAULT: the place of the first byte of the first TOKEN that can not stand there");
    faultAt("house;night |0;night 61;x");
    faultAt("   house  ;  night   |figure 100;");
    faultAt("house;bill 5 |wrong 999;");
    faultAt("house;night 1;|nightx 1;");
  }

  private void endsTooEarly() {
    e.says(7, "the TEXT's length, if it ends too early");
    faultAt("house|");
    faultAt("house   |");
    faultAt("house;night|");
    faultAt("house;night |");
    faultAt("house;night 1|");
    faultAt("house;night 1 |");
    faultAt("house;figure 1|");
    faultAt("house;figure 1 1|");
    faultAt("house;figure 1 1 1|");
    faultAt("house;bill 1 1|");
    faultAt("house;write 1 1 |");
    faultAt("|hous");
    faultAt("house;|nigh");
  }

  private void emptyText() {
    e.says(7, "(an empty one, too)");
    faultAt("|");
    faultAt(" |");
    faultAt(" ".repeat(150) + "|");
    FigureLeave x = Edges.typed("house;");
    x.clear();
    e.due("read() of a cleared text", x.read(), -10);
  }

  private static FigureLeave full() {
    FigureLeave x = new FigureLeave();
    Edges.allFigures(x, Edges.LAZY, 60);
    for (int i = 0; i < 6; i++) {
      x.bill(i, 99);
      x.trace(i, 1);
      x.note(i, 1, 1, 1);
    }
    x.image(1);
    x.pay(2);
    x.write(55, 55);
    x.night(3);
    x.odds(1, 1, 4);
    return x;
  }

  private void takesThePlace() {
    e.says(7, "A HOUSE that is read takes the place of all but IMAGES, THE TEXT, THE FRACTION, STATUS (TRACES, NOTES none; nothing to undo).");
    FigureLeave x = full();
    String text = "house;bill 8 9;write 1 1;night 1;write 2 2;";
    Edges.typeAll(x, text);
    e.due("read()", x.read(), 5);
    int[] counts = {1, 1, 0, 0, 2, 0, 0, 0, text.length()};
    for (int what = 0; what <= 8; what++) {
      e.due("count(" + what + ")", x.count(what), counts[what]);
    }
    for (int f = 0; f < 10; f++) {
      e.due("of(" + f + ", 0)", x.of(f, 0), Edges.PLAIN);
      e.due("of(" + f + ", 1)", x.of(f, 1), 20);
    }
    e.due("undo()", x.undo(), Edges.NO);
    e.due("read() once more", x.read(), 5);
    e.due("it does not go on from what was", x.count(0), 1);
  }

  private void keeps() {
    e.says(7, "all but IMAGES, THE TEXT, THE FRACTION, STATUS");
    FigureLeave x = full();
    x.undo();
    x.pay(2);
    x.night(0);
    x.bill(1, 1);
    Edges.typeAll(x, "house;");
    e.due("read()", x.read(), 1);
    e.due("bytes of the text", x.clear(), 6);
    e.due("above", x.part(0), 1);
    e.due("below", x.part(1), 1);
    e.due("status(0)", x.status(0), 1);
    e.due("status(1)", x.status(1), 1);
    e.due("status(2)", x.status(2), 1);
    e.due("from(1)", x.from(1), 1);
    e.due("bills of the image", x.count(0), 6);
    e.due("from(0) that was never made", x.from(0), Edges.NO);
  }

  private void faultLeavesAll() {
    e.says(7, "-10 less the FAULT: all stays.");
    FigureLeave x = full();
    FigureLeave twin = full();
    String text = "house;figure 1 1 1;bill 1 1;write 3 3;night 9;write 1 1;";
    Edges.typeAll(x, text);
    Edges.typeAll(twin, text);
    e.harmless(x, "read()", FigureLeave::read, -10 - text.indexOf("1;", text.indexOf("write 1")));
    for (int i = 0; i < 3; i++) {
      e.due("undo()", x.undo(), twin.undo());
      e.due("digest()", x.digest(), twin.digest());
    }
    e.due("from(1)", x.from(1), twin.from(1));
    e.due("digest()", x.digest(), twin.digest());
    for (int i = 0; i < text.length() - 1; i++) {
      x.clear();
      Edges.typeAll(x, text.substring(0, i));
      if (text.charAt(Math.max(0, i - 1)) != ';') {
        long had = x.digest();
        e.due("read() of " + i + " bytes is a fault", x.read() <= -10 ? 1 : 0, 1);
        e.due("digest()", x.digest(), had);
      }
    }
  }
}
