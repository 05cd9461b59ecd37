/** For each promise of the document: ordinary calls, its edges and wrong numbers, with answers worked out by hand. */
public final class PromiseTest {
  private static final int MIN = Integer.MIN_VALUE, MAX = Integer.MAX_VALUE;
  private static final int PLAIN = 0, PROUD = 1, LAZY = 2, SUNDAY = 3, VAIN = 4, OLD = 5;
  private static final int NONE = -1, BAD = -2, NO = -3, FULL = -4;
  private static int wrong = 0;
  private static int calls = 0;

  private static void due(String call, long got, long want) {
    calls++;
    if (got != want) {
      wrong++;
      System.out.println(call + " answered " + got + ", due is " + want);
    }
  }

  private static void typeAll(FigureLeave x, String text) {
    for (int i = 0; i < text.length(); i++) {
      x.type(text.charAt(i));
    }
  }

  private static FigureLeave told(String text, int want) {
    FigureLeave x = new FigureLeave();
    typeAll(x, text);
    due("7: read() of '" + text + "'", x.read(), want);
    return x;
  }

  private static void promise1() {
    FigureLeave x = new FigureLeave();
    for (int f = 0; f < 10; f++) {
      due("1: kind", x.of(f, 0), PLAIN);
      due("1: strength", x.of(f, 1), 20);
      due("1: worn", x.of(f, 2), 0);
    }
    for (int what = 0; what <= 8; what++) {
      due("1: count(" + what + ")", x.count(what), 0);
    }
    due("1: part(0)", x.part(0), 0);
    due("1: part(1)", x.part(1), 1);
    due("1: status(0)", x.status(0), 0);
    due("1: status(1)", x.status(1), 0);
    due("1: status(2)", x.status(2), 0);
    due("1: from(0)", x.from(0), NO);
    due("1: from(1)", x.from(1), NO);
    due("1: undo()", x.undo(), NO);
  }

  private static void promise2() {
    FigureLeave x = new FigureLeave();
    x.bill(1, 7);
    x.bill(2, 8);
    x.figure(4, LAZY, 9);
    x.image(1);
    x.pay(0);
    x.night(3);
    x.trace(1, 1);
    x.note(1, 1, 1, 1);
    x.type('h');
    x.odds(44, 44, 5);
    long above = x.part(0), below = x.part(1);
    x.pay(9);
    due("2: house()", x.house(), 2);
    for (int what = 0; what <= 7; what++) {
      due("2: count(" + what + ")", x.count(what), 0);
    }
    due("2: the text stays", x.count(8), 1);
    due("2: of(4, 0)", x.of(4, 0), PLAIN);
    due("2: of(4, 1)", x.of(4, 1), 20);
    due("2: above stays", x.part(0), above);
    due("2: below stays", x.part(1), below);
    due("2: status stays", x.status(0), 1);
    due("2: undo()", x.undo(), NO);
    due("2: images stay", x.from(1), 1);
    due("2: count(0) of the image", x.count(0), 2);
    due("2: house() again", x.house(), 2);
    due("2: house() of none", x.house(), 0);
  }

  private static void promise3() {
    FigureLeave x = new FigureLeave();
    due("3: figure(0, 5, 60)", x.figure(0, OLD, 60), 20);
    due("3: figure(0, 0, 1)", x.figure(0, PLAIN, 1), 560);
    due("3: figure(9, 1, 7)", x.figure(9, PROUD, 7), 20);
    due("3: figure(9, 0, 7)", x.figure(9, PLAIN, 7), 107);
    int[][] bads = {{-1, 0, 1}, {10, 0, 1}, {0, -1, 1}, {0, 6, 1}, {0, 0, 0}, {0, 0, 61}, {MIN, 0, 1}, {0, MAX, 1}, {0, 0, MIN}};
    for (int[] b : bads) {
      due("3: wrong numbers", x.figure(b[0], b[1], b[2]), BAD);
    }
    due("3: status(0)", x.status(0), bads.length);
    due("3: nothing changed", x.of(0, 1), 1);
    x.write(33, 33);
    due("3: undo stays behind a bad one", x.count(7), 1);
    x.figure(3, 9, 9);
    due("3: undo stays behind a bad one", x.count(7), 1);
    x.figure(3, PLAIN, 3);
    due("3: worn as it was", x.of(3, 2), 4);
    due("3: none may be undone", x.undo(), NO);
    due("3: worn above its strength", x.can(3, 3), 0);
  }

  private static void promise4() {
    FigureLeave x = new FigureLeave();
    x.write(1, 1);
    due("4: a bad bill", x.bill(100, 0), BAD);
    due("4: undo stays", x.count(7), 1);
    for (int b = 0; b < 6; b++) {
      due("4: bill", x.bill(b == 0 ? 0 : 99, b == 1 ? 0 : 99), b);
    }
    due("4: none may be undone", x.count(7), 0);
    due("4: full", x.bill(1, 1), FULL);
    due("4: bad ahead of full", x.bill(-1, 1), BAD);
    due("4: bad", x.bill(1, -1), BAD);
    due("4: bad", x.bill(1, 100), BAD);
    due("4: bad", x.bill(MAX, MIN), BAD);
    due("4: status(2)", x.status(2), 1);
    due("4: count(0)", x.count(0), 6);
  }

  private static void promise5and6() {
    FigureLeave x = new FigureLeave();
    due("5: type(0)", x.type(0), 1);
    due("5: type(127)", x.type(127), 2);
    due("5: type(128)", x.type(128), BAD);
    due("5: type(-1)", x.type(-1), BAD);
    for (int i = 3; i <= 150; i++) {
      due("5: type(32)", x.type(32), i);
    }
    due("5: full", x.type(32), FULL);
    due("5: bad ahead of full", x.type(200), BAD);
    due("5: status(0)", x.status(0), 3);
    due("5: status(2)", x.status(2), 1);
    due("6: clear()", x.clear(), 150);
    due("6: clear()", x.clear(), 0);
    due("6: type behind it", x.type(1), 1);
  }

  private static void promise7() {
    told("", -10);
    told("   ", -13);
    told("house;", 1);
    told("  house ;  ", 1);
    told("house", -15);
    told("house  ", -17);
    told("hous;", -10);
    told("hous", -10);
    told("housefigure", -10);
    told("House;", -10);
    told("xouse;", -10);
    told("housea;", -10);
    told("housez;", -10);
    told("house`", -15);
    told("house{", -15);
    told("house;night 1/", -23);
    told("house;night 1:", -23);
    told("house;" + " ".repeat(138) + "figure", -160);
    told("house;" + " ".repeat(136) + "night 60", -160);
    told("house;" + " ".repeat(135) + "night 60;", 2);
    told("house;" + " ".repeat(143) + "7", -159);
    told("house;bill 0 0;write 0 0;figure 0 0 1;", 4);
    told(" ;", -11);
    told("7;", -10);
    told("figure 1 1 1;", -10);
    told("house house;", -16);
    told("house;house;", -16);
    told("house;;", -16);
    told("house 1;", -16);
    told("house,", -15);
    told("house;\t", -16);
    told("house;Figure", -16);
    told("house;figures 1 1 1;", -16);
    told("house;1", -16);
    told("house;figure", -22);
    told("house;figure 10 1 9;", -23);
    told("house;figure 3 6 9;", -25);
    told("house;figure 3 1 0;", -27);
    told("house;figure 3 1 61;", -27);
    told("house;figure 3 1 009;", -27);
    told("house;figure 3 1 9", -28);
    told("house;figure 3 1;", -26);
    told("house;figure 3 1 9 9;", -29);
    told("house;figure 3 1 bill", -27);
    told("house;figure 3 1 9bill;", -28);
    told("house;figure 3 1 60;", 2);
    FigureLeave x = told("house;figure3 1 09;", 2);
    due("7: its kind", x.of(3, 0), PROUD);
    due("7: its strength", x.of(3, 1), 9);
    told("house;bill 100 1;", -21);
    told("house;bill 1 100;", -23);
    told("house;bill 99 99;", 2);
    String six = "house;bill 1 1;bill 2 2;bill 3 3;bill 4 4;bill 5 5;bill 6 6;";
    x = told(six, 7);
    due("7: bills", x.count(0), 6);
    due("7: number", x.about(5, 0), 6);
    told(six + "bill", -70);
    told(six + " bill 7 7;", -71);
    told("house;write 5;", -23);
    told("house;write 5 5 5;", -26);
    x = told("house;write 7 9;", 2);
    due("7: worn", x.of(9, 2), 2);
    due("7: worn", x.of(2, 2), 2);
    due("7: not to be undone", x.undo(), NO);
    told("house;figure 7 0 1;write 7 7;", -37);
    told("house;figure 7 0 1;write 7 7", -37);
    told("house;figure 7 0 2;write 7 7;write 7 7;", -47);
    told("house;figure 7 0 2;write 7 7;night 1;write 7 7;", 5);
    told("house;night 0;", -22);
    told("house;night 61;", -22);
    x = told("house;night60;night 1;", 3);
    due("7: day", x.count(1), 61);
    promise7OnWhatWas();
  }

  private static void promise7OnWhatWas() {
    FigureLeave x = new FigureLeave();
    x.bill(5, 5);
    x.pay(0);
    x.image(0);
    x.trace(1, 1);
    x.note(1, 1, 1, 1);
    x.odds(1, 1, 10);
    x.pay(9);
    typeAll(x, "house;night 2;write 4 4");
    long d = x.digest();
    due("7: a fault", x.read(), -33);
    due("7: all stays", x.digest(), d);
    x.type(';');
    due("7: read()", x.read(), 3);
    int[] counts = {0, 2, 0, 0, 2, 0, 0, 0, 24};
    for (int what = 0; what <= 8; what++) {
      due("7: count(" + what + ")", x.count(what), counts[what]);
    }
    due("7: the fraction stays", x.part(0), 1);
    due("7: status stays", x.status(0), 1);
    due("7: a fault is none of the status", x.status(1) + x.status(2), 0);
    due("7: images stay", x.from(0), 1);
    due("7: earned in the image", x.count(2), 5);
  }

  private static void promise8() {
    FigureLeave x = new FigureLeave();
    due("8: alone", x.write(77, 77), 4);
    due("8: worn", x.of(7, 2), 4);
    due("8: a sum", x.write(77, 70), 6);
    due("8: worn 7", x.of(7, 2), 8);
    due("8: worn 0", x.of(0, 2), 2);
    due("8: a difference", x.write(7, 99), 8);
    due("8: worn 9", x.of(9, 2), 6);
    due("8: worn 2", x.of(2, 2), 2);
    due("8: zero by zero", x.write(0, 0), 2);
    due("8: worn 0", x.of(0, 2), 4);
    x.figure(6, VAIN, 4);
    due("8: vain in front", x.write(6, 6), 0);
    due("8: vain behind", x.write(16, 16), 6);
    due("8: worn 6", x.of(6, 2), 4);
    due("8: it can not be", x.write(16, 16), NO);
    due("8: nothing changed", x.count(7), 2);
    due("8: nothing changed", x.of(1, 2), 2);
    due("8: bad", x.write(-1, 0), BAD);
    due("8: bad", x.write(100, 0), BAD);
    due("8: bad", x.write(0, -1), BAD);
    due("8: bad", x.write(0, 100), BAD);
    due("8: status(1)", x.status(1), 1);
    x.figure(6, VAIN, 3);
    due("8: worn by more than its strength, wearing nothing", x.write(6, 6), NO);
    due("8: others do not matter", x.write(5, 5), 2);
  }

  private static void promise9() {
    FigureLeave x = new FigureLeave();
    due("9: no bill", x.pay(0), BAD);
    x.bill(88, 30);
    x.bill(8, 12);
    x.figure(8, PLAIN, 5);
    due("9: pay(0)", x.pay(0), 30);
    due("9: paid", x.about(0, 2), 1);
    due("9: worn", x.of(8, 2), 4);
    due("9: it is paid", x.pay(0), NO);
    due("9: it can not be", x.pay(1), NO);
    due("9: bad", x.pay(2), BAD);
    due("9: bad", x.pay(-1), BAD);
    due("9: bad", x.pay(MAX), BAD);
    x.night(1);
    due("9: pay(1)", x.pay(1), 42);
    due("9: bits", x.count(3), 3);
    due("9: status(1)", x.status(1), 2);
  }

  private static void promise10() {
    FigureLeave x = new FigureLeave();
    due("10: bad", x.night(0), BAD);
    due("10: bad", x.night(61), BAD);
    due("10: bad", x.night(MIN), BAD);
    for (int f = 0; f < 6; f++) {
      x.figure(f, f, 60);
    }
    for (int f = 0; f < 6; f++) {
      x.write(11 * f, 11 * f);
      x.write(11 * f, 11 * f);
      x.write(11 * f, 11 * f);
    }
    int[] worn = {6, 15, 24, 12, 12, 24};
    for (int f = 0; f < 6; f++) {
      due("10: worn " + f, x.of(f, 2), worn[f]);
    }
    due("10: night(1)", x.night(1), 1);
    int[] rested = {3, 12, 18, 10, 9, 18};
    for (int f = 0; f < 6; f++) {
      due("10: rested " + f, x.of(f, 2), rested[f]);
    }
    due("10: night(60)", x.night(60), 61);
    for (int f = 0; f < 6; f++) {
      due("10: all rested " + f, x.of(f, 2), f == OLD ? 1 : 0);
    }
    for (int i = 0; i < 165; i++) {
      x.night(60);
    }
    due("10: night(38)", x.night(38), 9999);
    x.figure(0, PLAIN, 60);
    x.write(0, 0);
    x.write(0, 0);
    due("10: night(1) at 9999", x.night(1), 9999);
    due("10: it rests all the same", x.of(0, 2), 1);
    due("10: it may be undone", x.count(7), 3);
    due("10: undo()", x.undo(), 9999);
    due("10: worn again", x.of(0, 2), 4);
    due("10: night(60) at 9999", x.night(60), 9999);
  }

  private static void promise11() {
    FigureLeave x = new FigureLeave();
    due("11: none", x.undo(), NO);
    x.bill(5, 9);
    x.night(2);
    x.pay(0);
    x.write(55, 55);
    x.night(60);
    due("11: four", x.count(7), 4);
    due("11: nights together", x.undo(), 2);
    due("11: worn", x.of(5, 2), 6);
    due("11: a line", x.undo(), 2);
    due("11: worn", x.of(5, 2), 2);
    due("11: paying", x.undo(), 2);
    due("11: not paid", x.count(3), 0);
    due("11: earned", x.count(2), 0);
    due("11: the first", x.undo(), 0);
    due("11: none", x.undo(), NO);
    for (int i = 1; i <= 11; i++) {
      x.night(1);
    }
    due("11: eight at most", x.count(7), 8);
    for (int i = 10; i >= 3; i--) {
      due("11: the last first", x.undo(), i);
    }
    due("11: none", x.undo(), NO);
    x.night(1);
    x.trace(1, 1);
    x.note(1, 1, 1, 1);
    due("11: traces and notes stay", x.undo() + x.count(5) + x.count(6), 5);
    due("11: status(1)", x.status(1), 3);
  }

  private static void promise12() {
    FigureLeave x = new FigureLeave();
    x.figure(3, SUNDAY, 7);
    due("12: kind", x.of(3, 0), SUNDAY);
    due("12: strength", x.of(3, 1), 7);
    due("12: left", x.of(3, 3), 3);
    x.write(3, 3);
    due("12: worn", x.of(3, 2), 2);
    due("12: left", x.of(3, 3), 2);
    x.night(6);
    due("12: left on a sunday", x.of(3, 3), 99);
    x.write(5, 5);
    x.figure(5, PLAIN, 1);
    due("12: left of one worn by more than its strength", x.of(5, 3), 0);
    x.figure(5, VAIN, 1);
    due("12: the same, wearing nothing", x.of(5, 3), 0);
    x.figure(5, VAIN, 2);
    due("12: left of a vain one", x.of(5, 3), 99);
    x.figure(6, OLD, 60);
    due("12: left of an old one", x.of(6, 3), 15);
    x.night(1);
    due("12: left of an old one on an odd day", x.of(6, 3), 12);
    int[] rests = {3, 3, 6, 2, 3, 0};
    for (int kind = 0; kind <= 5; kind++) {
      x.figure(7, kind, 60);
      due("12: rests, not worn", x.of(7, 4), rests[kind]);
    }
    x.write(7, 7);
    due("12: old, worn 5", x.of(7, 4), 2);
    x.write(77, 77);
    due("12: old, worn 15", x.of(7, 4), 6);
    due("12: bad", x.of(-1, 0), BAD);
    due("12: bad", x.of(10, 0), BAD);
    due("12: bad", x.of(0, 5), BAD);
    due("12: bad", x.of(0, -1), BAD);
    due("12: bad once", x.of(10, 7), BAD);
    due("12: status(0)", x.status(0), 5);
  }

  private static void promise13() {
    FigureLeave x = new FigureLeave();
    due("13: no bill", x.about(0, 0), BAD);
    x.bill(73, 12);
    due("13: number", x.about(0, 0), 73);
    due("13: worth", x.about(0, 1), 12);
    due("13: not paid", x.about(0, 2), 0);
    x.pay(0);
    due("13: paid", x.about(0, 2), 1);
    x.undo();
    due("13: not paid again", x.about(0, 2), 0);
    due("13: bad", x.about(1, 0), BAD);
    due("13: bad", x.about(-1, 0), BAD);
    due("13: bad", x.about(0, 3), BAD);
    due("13: bad", x.about(0, -1), BAD);
  }

  private static void promise14() {
    FigureLeave x = new FigureLeave();
    for (int kind = 0; kind <= 5; kind++) {
      x.figure(kind, kind, 20);
    }
    int[][] even = {{2, 2, 2, 2}, {2, 3, 4, 5}, {4, 4, 4, 4}, {2, 2, 2, 2}, {0, 4, 5, 6}, {4, 4, 4, 4}};
    for (int day = 0; day <= 14; day++) {
      for (int f = 0; f <= 5; f++) {
        for (int k = 0; k < 4; k++) {
          int want = even[f][k];
          if (f == SUNDAY && (day == 6 || day == 13)) {
            want = 0;
          }
          if (f == OLD && day % 2 == 1) {
            want = 5;
          }
          due("14: wears(" + f + ", " + k + ") on " + day, x.wears(f, k), want);
        }
      }
      x.night(1);
    }
    due("14: bad", x.wears(0, 4), BAD);
    due("14: bad", x.wears(0, -1), BAD);
    due("14: bad", x.wears(10, 0), BAD);
    due("14: bad", x.wears(-1, 0), BAD);
  }

  private static void promise15() {
    FigureLeave x = new FigureLeave();
    due("15: one sign", x.cost(9, 9), 2);
    due("15: two signs", x.cost(10, 10), 4);
    due("15: a sum of one each", x.cost(9, 4), 4);
    due("15: a sum by 0", x.cost(9, 0), 4);
    due("15: a difference", x.cost(0, 99), 8);
    x.figure(9, PROUD, 1);
    due("15: signs go on from number to number", x.cost(0, 99), 14);
    due("15: strength does not matter", x.cost(9, 9), 2);
    x.figure(9, VAIN, 1);
    due("15: vain", x.cost(0, 99), 15);
    due("15: bad", x.cost(-1, 0), BAD);
    due("15: bad", x.cost(0, 100), BAD);
    due("15: nothing is worn", x.count(4), 0);
  }

  private static void promise16() {
    FigureLeave x = new FigureLeave();
    x.figure(4, PLAIN, 4);
    due("16: twice", x.can(44, 44), 1);
    due("16: thrice", x.can(48, 44), 0);
    due("16: by 8", x.can(4, 8), 1);
    x.write(44, 44);
    due("16: not there", x.can(4, 4), 0);
    due("16: by others", x.can(4, 9), 1);
    due("16: nothing is worn", x.count(4), 4);
    due("16: bad", x.can(4, 100), BAD);
    due("16: bad", x.can(100, 4), BAD);
    due("16: bad", x.can(MIN, MAX), BAD);
  }

  private static void promise17() {
    FigureLeave x = new FigureLeave();
    due("17: itself", x.best(7), 7);
    x.figure(7, PLAIN, 1);
    due("17: the least of like ones", x.best(7), 1);
    due("17: a ten", x.best(70), 1);
    x.figure(5, VAIN, 20);
    due("17: the vain one in front", x.best(7), 5);
    x.figure(6, LAZY, 20);
    due("17: v of like ones", x.best(6), 5);
    x.figure(5, PLAIN, 20);
    due("17: v, though a sum costs as much", x.best(6), 6);
    for (int f = 0; f < 10; f++) {
      x.figure(f, PLAIN, 1);
    }
    due("17: none", x.best(7), NONE);
    due("17: bad", x.best(100), BAD);
    due("17: bad", x.best(-1), BAD);
    due("17: none is not refused", x.status(0), 2);
  }

  private static void promise18() {
    FigureLeave x = new FigureLeave();
    due("18: none", x.first(), NONE);
    for (int f = 1; f < 10; f++) {
      x.figure(f, PLAIN, 1);
    }
    due("18: only 0 is there", x.first(), 1);
    x.figure(0, PLAIN, 1);
    due("18: not even 0", x.first(), 0);
    x.figure(1, PLAIN, 20);
    x.figure(2, PLAIN, 20);
    // 0 is 1 less 1, 3 is 1 and 2, 4 is 2 and 2; 5 by 1, 2, 11, 12, 21, 22 wants 4, 3, 6, 7, 16, 17
    due("18: ones and twos", x.first(), 5);
  }

  private static void promise19() {
    FigureLeave x = new FigureLeave();
    due("19: new", x.counts(), 18);
    for (int f = 0; f < 10; f++) {
      x.figure(f, PLAIN, 60);
    }
    // up to 99 each figure but 0 is written twenty times
    due("19: up to 99", x.counts(), 100);
    x.figure(0, PLAIN, 1);
    due("19: none at all", x.counts(), 0);
    x.figure(0, PLAIN, 2);
    due("19: 10 wants 0 again", x.counts(), 10);
    due("19: nothing is worn", x.count(4), 0);
  }

  private static void promise20() {
    FigureLeave x = new FigureLeave();
    due("20: now", x.when(7, 7), 0);
    x.figure(7, PLAIN, 10);
    for (int i = 0; i < 5; i++) {
      x.write(7, 7);
    }
    due("20: one night", x.when(7, 7), 1);
    due("20: two nights", x.when(77, 77), 2);
    due("20: 7 and 70", x.when(77, 7), 2);
    x.figure(7, PLAIN, 1);
    due("20: never", x.when(7, 7), NONE);
    x.figure(8, SUNDAY, 1);
    due("20: on a sunday", x.when(8, 8), 6);
    x.night(6);
    due("20: today", x.when(8, 8), 0);
    x.night(1);
    due("20: next sunday", x.when(8, 8), 6);
    for (int i = 0; i < 167; i++) {
      x.night(60);
    }
    due("20: days go beyond 9999", x.when(8, 8), 3);
    due("20: nothing changed", x.count(1), 9999);
    due("20: bad", x.when(100, 0), BAD);
    due("20: bad", x.when(0, 100), BAD);
  }

  private static void promise21() {
    FigureLeave x = new FigureLeave();
    due("21: no bills", x.most(0), 0);
    due("21: no bills", x.most(1), 0);
    x.figure(1, PLAIN, 4);
    x.bill(1, 5);
    x.bill(1, 5);
    x.bill(11, 9);
    due("21: two together", x.most(0), 3);
    due("21: their worth", x.most(1), 10);
    x.bill(1, 5);
    due("21: the least bits", x.most(0), 3);
    x.bill(2, 0);
    due("21: one without worth is not taken", x.most(0), 3);
    x.bill(11, 10);
    due("21: of like worth the least bits", x.most(0), 3);
    x.pay(0);
    due("21: not the paid one", x.most(0), 2);
    due("21: not the paid one's", x.most(1), 5);
    due("21: bad", x.most(2), BAD);
    due("21: bad", x.most(-1), BAD);
  }

  private static void promise22() {
    FigureLeave x = new FigureLeave();
    due("22: no bills", x.plan(-1), 0);
    due("22: bad", x.plan(0), -10);
    x.figure(1, PLAIN, 2);
    for (int b = 0; b < 4; b++) {
      x.bill(1, 1);
      due("22: one each day", x.plan(-1), b + 1);
      due("22: its day", x.plan(b), b);
      due("22: the first one's", x.plan(0), 0);
    }
    x.bill(1, 1);
    due("22: none", x.plan(-1), NONE);
    due("22: none", x.plan(0), NONE);
    due("22: bad", x.plan(5), -10);
    due("22: bad", x.plan(-2), -10);
    due("22: status(0)", x.status(0), 3);
    x.pay(0);
    due("22: a night first, and four days for four", x.plan(-1), NONE);
    x.night(1);
    due("22: four for four", x.plan(-1), 4);
    due("22: a paid one", x.plan(0), NONE);
    due("22: not refused", x.status(0), 3);
    due("22: the first open one's", x.plan(1), 0);
    due("22: the last one's", x.plan(4), 3);
    x = new FigureLeave();
    x.figure(1, OLD, 9);
    x.bill(1, 1);
    x.bill(11, 1);
    due("22: few days ahead of the first one's day", x.plan(-1), 2);
    due("22: waits", x.plan(0), 1);
    due("22: today", x.plan(1), 0);
  }

  private static void promise23() {
    FigureLeave x = new FigureLeave();
    due("23: of like ones the least", x.wanted(0), 0);
    due("23: all numbers", x.wanted(1), 100);
    x.figure(7, PLAIN, 1);
    due("23: the weak one", x.wanted(0), 7);
    due("23: how many", x.wanted(1), 100);
    x.figure(0, PLAIN, 1);
    // without 7 are 9 + 9 + 1 fewer; without 0 are 0, 10, 20 .. 90 fewer
    due("23: 7 is in more numbers than 0", x.wanted(0), 7);
    due("23: all but those with 0", x.wanted(1), 90);
    due("23: strength stays", x.of(7, 1), 1);
    x.figure(3, PLAIN, 60);
    due("23: above 60", x.wanted(0), 7);
    due("23: bad", x.wanted(2), BAD);
    due("23: bad", x.wanted(-1), BAD);
  }

  private static void promise24to25() {
    FigureLeave x = new FigureLeave();
    due("25: all lines", x.which(-1), 10000);
    due("25: the first", x.which(0), 0);
    due("25: the last", x.which(9999), 9999);
    due("25: not so many", x.which(10000), -5);
    due("25: not so many", x.which(MAX), -5);
    due("25: bad", x.which(-2), -10);
    due("25: bad", x.which(MIN), -10);
    due("25: status(0)", x.status(0), 2);
    due("24: trace(7, 8)", x.trace(7, 8), 1);
    // four sevens: only 0 by 77, which is 77 less 77
    due("25: four sevens", x.which(-1), 1);
    due("25: four sevens", x.which(0), 77);
    due("25: not so many", x.which(1), -5);
    due("27: forget(0)", x.forget(0), 1);
    due("24: trace(7, 6)", x.trace(7, 6), 1);
    due("25: three sevens: 1 by 77 is 77 less 76", x.which(0), 177);
    x.trace(8, 2);
    due("25: three sevens and an 8: 1 by 78 is 78 less 77", x.which(0), 178);
    x.trace(8, 0);
    due("25: an 8 and none", x.which(-1), 0);
    due("25: an 8 and none", x.which(0), -5);
    due("27: forget(0)", x.forget(0), 3);
    for (int i = 1; i <= 6; i++) {
      due("24: trace", x.trace(i == 1 ? 0 : 9, i == 1 ? 0 : 40), i);
    }
    due("24: full", x.trace(1, 1), FULL);
    due("24: bad ahead of full", x.trace(10, 1), BAD);
    due("24: bad", x.trace(-1, 1), BAD);
    due("24: bad", x.trace(1, -1), BAD);
    due("24: bad", x.trace(1, 41), BAD);
    due("24: count(5)", x.count(5), 6);
    x = new FigureLeave();
    x.figure(7, PROUD, 1);
    x.trace(7, 5);
    due("25: 0 by 7 is 7 less 7, strength does not matter", x.which(0), 7);
    x.figure(7, OLD, 1);
    due("25: by what it wears now", x.which(0), -5);
    x.night(1);
    due("25: by what it wears today", x.which(0), 107);
  }

  private static void promise26to29() {
    FigureLeave x = new FigureLeave();
    due("28: no notes", x.is(1), 63);
    due("29: all kinds", x.look(1), 6);
    due("26: note", x.note(1, 2, 6, 4), 1);
    due("28: proud, lazy, old", x.is(1), 38);
    due("28: of another", x.is(2), 63);
    due("29: by an odd day", x.look(1), 1);
    due("26: note", x.note(1, 0, 1, 5), 2);
    due("28: old", x.is(1), 32);
    due("29: one kind", x.look(1), 0);
    due("26: note", x.note(1, 0, 6, 0), 3);
    due("28: none", x.is(1), 0);
    due("29: none", x.look(1), NONE);
    due("26: note", x.note(0, 0, 0, 0), 4);
    due("28: vain", x.is(0), 16);
    due("26: note", x.note(9, 3, 99, 20), 5);
    due("26: note", x.note(9, 3, 99, 20), 6);
    due("26: full", x.note(9, 3, 99, 20), FULL);
    due("26: bad ahead of full", x.note(10, 3, 99, 20), BAD);
    due("26: bad", x.note(-1, 3, 99, 20), BAD);
    due("26: bad", x.note(9, 4, 99, 20), BAD);
    due("26: bad", x.note(9, -1, 99, 20), BAD);
    due("26: bad", x.note(9, 3, 100, 20), BAD);
    due("26: bad", x.note(9, 3, -1, 20), BAD);
    due("26: bad", x.note(9, 3, 99, 21), BAD);
    due("26: bad", x.note(9, 3, 99, -1), BAD);
    due("28: bad", x.is(10), BAD);
    due("28: bad", x.is(-1), BAD);
    due("29: bad", x.look(10), BAD);
    due("29: bad", x.look(-1), BAD);
    due("27: bad", x.forget(2), BAD);
    due("27: bad", x.forget(-1), BAD);
    x.trace(1, 1);
    due("27: forget(1)", x.forget(1), 6);
    due("27: traces stay", x.count(5), 1);
    due("27: forget(0)", x.forget(0), 1);
    due("27: forget(0)", x.forget(0), 0);
    due("28: no notes", x.is(1), 63);
    x.note(4, 1, 0, 2);
    due("28: plain, sunday", x.is(4), 9);
    due("29: on a sunday", x.look(4), 6);
  }

  private static void promise30() {
    FigureLeave x = new FigureLeave();
    x.figure(1, PLAIN, 2);
    x.bill(1, 10);
    x.bill(1, 10);
    due("30: one of them", x.two(0, 1), 6);
    x.bill(1, 0);
    x.bill(1, 0);
    due("30: without worth", x.two(2, 3), 15);
    x.bill(1, 1);
    x.bill(2, 10);
    // both wait: a would write; else neither would have more
    due("30: a worth of one, half of it cut", x.two(4, 2), 14);
    due("30: both can be", x.two(0, 5), 8);
    x.figure(1, PLAIN, 1);
    due("30: a can not be", x.two(0, 5), 4);
    due("30: b can not be", x.two(5, 0), 2);
    due("30: bad, alike", x.two(1, 1), BAD);
    due("30: bad", x.two(0, 6), BAD);
    due("30: bad", x.two(-1, 0), BAD);
    x.pay(5);
    due("30: paid", x.two(0, 5), NO);
    due("30: paid", x.two(5, 0), NO);
    due("30: bad ahead of no", x.two(5, 5), BAD);
    due("30: status(0)", x.status(0), 4);
    due("30: status(1)", x.status(1), 2);
  }

  private static void odds(FigureLeave x, int v, int by, int c, int above, int below) {
    due("31: odds(" + v + ", " + by + ", " + c + ")", x.odds(v, by, c), 1);
    due("33: above", x.part(0), above);
    due("33: below", x.part(1), below);
  }

  private static void promise31and33() {
    FigureLeave x = new FigureLeave();
    odds(x, 7, 7, 0, 1, 1);
    x.figure(7, PLAIN, 2);
    odds(x, 77, 77, 0, 0, 1);
    odds(x, 77, 77, 5, 3, 4);
    odds(x, 77, 77, 3, 51, 100);
    odds(x, 77, 77, 10, 1, 1);
    // 84 by 77: three sevens, two of which must be free: 3 * 0.01 * 0.9 + 0.001
    odds(x, 84, 77, 1, 7, 250);
    x.write(7, 7);
    odds(x, 7, 7, 10, 1, 1);
    odds(x, 7, 7, 4, 2, 5);
    x.figure(7, PLAIN, 1);
    odds(x, 7, 7, 10, 0, 1);
    odds(x, 7, 9, 1, 1, 1);
    due("31: bad", x.odds(100, 0, 0), BAD);
    due("31: bad", x.odds(0, 100, 0), BAD);
    due("31: bad", x.odds(0, 0, 11), BAD);
    due("31: bad", x.odds(0, 0, -1), BAD);
    due("33: bad", x.part(2), BAD);
    due("33: bad", x.part(-1), BAD);
    due("33: as it was", x.part(0), 1);
    due("33: status(0)", x.status(0), 6);
    due("31: nothing is worn", x.count(4), 2);
  }

  private static void promise32() {
    FigureLeave x = new FigureLeave();
    due("32: no days", x.years(5, 0), 0);
    due("32: years(0, 60)", x.years(0, 60), 60);
    x.figure(0, PLAIN, 1);
    // 12345 by 65536 is 0
    due("32: 0 is first by seed 0", x.years(0, 1), 0);
    // 1103527590 by 65536 is 16838
    due("32: 38 is first by seed 1", x.years(1, 1), 1);
    x.figure(8, PLAIN, 1);
    due("32: 38 can not be", x.years(1, 1), 0);
    due("32: bad", x.years(-1, 1), BAD);
    due("32: bad", x.years(1000000, 1), BAD);
    due("32: bad", x.years(1, 61), BAD);
    due("32: bad", x.years(1, -1), BAD);
    due("32: the last seed", x.years(999999, 1) >= 0 ? 1 : 0, 1);
    due("32: nothing changed", x.count(1) + x.count(4), 0);
  }

  private static void promise34to35() {
    FigureLeave x = new FigureLeave();
    due("35: none was kept", x.from(1), NO);
    due("35: bad", x.from(2), BAD);
    due("35: bad", x.from(-1), BAD);
    due("34: bad", x.image(2), BAD);
    due("34: bad", x.image(-1), BAD);
    x.bill(7, 5);
    x.figure(7, LAZY, 30);
    x.trace(1, 2);
    x.note(1, 2, 3, 4);
    x.pay(0);
    x.night(1);
    due("34: image(1)", x.image(1), 1);
    long d = x.digest();
    due("35: the other was not kept", x.from(0), NO);
    x.house();
    x.trace(3, 3);
    due("35: from(1)", x.from(1), 1);
    due("35: all as it was", x.digest(), d);
    due("35: what may be undone", x.undo(), 0);
    due("35: what may be undone", x.undo(), 0);
    due("35: not paid", x.count(3), 0);
    due("35: the image stays", x.from(1), 1);
    due("35: all as it was", x.digest(), d);
    x.write(1, 1);
    x.image(0);
    x.image(1);
    x.house();
    x.type('a');
    x.odds(1, 1, 1);
    due("35: from(0)", x.from(0), 1);
    due("35: a line more", x.count(7), 3);
    due("35: the text is none of it", x.count(8), 1);
    due("35: the fraction is none of it", x.part(0), 1);
    due("35: status is none of it", x.status(0), 4);
    due("35: status is none of it", x.status(1), 2);
  }

  private static void promise36() {
    FigureLeave x = new FigureLeave();
    x.undo();
    x.night(0);
    x.night(0);
    due("36: status(0)", x.status(0), 2);
    due("36: status(1)", x.status(1), 1);
    due("36: status(2)", x.status(2), 0);
    due("36: another", x.status(3), -1);
    due("36: another", x.status(-1), -1);
    due("36: it counts as bad", x.status(0), 4);
    x.plan(9);
    x.which(-9);
    due("36: so do these", x.status(0), 6);
    x.best(0);
    x.which(MAX);
    x.read();
    due("36: these do not", x.status(0) + x.status(1) + x.status(2), 7);
  }

  private static void promise37() {
    FigureLeave x = new FigureLeave();
    x.bill(12, 30);
    x.bill(3, 4);
    x.bill(4, 5);
    x.night(2);
    x.pay(0);
    x.pay(2);
    x.trace(1, 1);
    x.trace(1, 1);
    x.note(1, 1, 1, 1);
    x.type(1);
    x.type(1);
    x.type(1);
    x.type(1);
    int[] want = {3, 2, 35, 5, 6, 2, 1, 3, 4};
    for (int what = 0; what <= 8; what++) {
      due("37: count(" + what + ")", x.count(what), want[what]);
    }
    due("37: bad", x.count(9), BAD);
    due("37: bad", x.count(-1), BAD);
    due("37: status(0)", x.status(0), 2);
  }

  private static void promise38() {
    FigureLeave x = new FigureLeave();
    x.bill(12, 30);
    x.figure(2, PROUD, 21);
    x.pay(0);
    x.trace(5, 6);
    x.note(7, 1, 90, 9);
    x.type(1);
    x.figure(3, OLD, 3);
    x.odds(33, 33, 1);
    int[] all = {1, 0, 30, 1, 5, 1, 1, 0, 1,
        0, 20, 0, 0, 20, 2, 1, 21, 3, 5, 3, 0, 0, 20, 0, 0, 20, 0, 0, 20, 0, 0, 20, 0, 0, 20, 0, 0, 20, 0,
        12, 30, 5, 6, 7, 1, 90, 9, 1, 100};
    long h = 1493;
    for (int v : all) {
      h = 31 * h + v;
    }
    due("38: digest()", x.digest(), h);
    due("38: it changes nothing", x.digest(), h);
  }

  public static void main(String[] args) {
    promise1();
    promise2();
    promise3();
    promise4();
    promise5and6();
    promise7();
    promise8();
    promise9();
    promise10();
    promise11();
    promise12();
    promise13();
    promise14();
    promise15();
    promise16();
    promise17();
    promise18();
    promise19();
    promise20();
    promise21();
    promise22();
    promise23();
    promise24to25();
    promise26to29();
    promise30();
    promise31and33();
    promise32();
    promise34to35();
    promise36();
    promise37();
    promise38();
    System.out.println(calls + " answers looked at, " + wrong + " wrong");
    if (wrong != 0) {
      System.exit(1);
    }
  }
}
