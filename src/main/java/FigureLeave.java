import java.util.Arrays;

/** A counting house whose ten figures tire as they are written; see README.md. */
public final class FigureLeave {
  public static final int NONE = -1, BAD = -2, NO = -3, FULL = -4;

  private static final int NOT_SO_MANY = -5;
  private static final int OTHER_BAD = -10;
  private static final int FAULT_BASE = -10;

  private static final int FIGURES = 10;
  private static final int NUMBERS = 100;
  private static final int SIGNS = 4;
  private static final int LAST_DAY = 9999;
  private static final int MOST_NIGHTS = 60;

  private static final int FIRST_STRENGTH = 20;
  private static final int MOST_STRENGTH = 60;
  private static final int MORE_STRENGTH = 10;
  private static final int MOST_LEFT = 99;

  private static final int MOST_BILLS = 6;
  private static final int MOST_WORTH = 99;
  private static final int PLAN_DAYS = 4;

  private static final int MOST_CLUES = 6;
  private static final int MOST_TRACED = 40;
  private static final int MOST_NOTED = 20;
  private static final int MOST_NOTED_DAY = 99;
  private static final int LOOK_DAYS = 14;

  private static final int MOST_UNDONE = 8;
  private static final int MOST_BYTES = 150;
  private static final int LAST_BYTE = 127;
  private static final int IMAGES = 2;
  private static final int ALL_ODDS = 10;
  private static final int LAST_SEED = 999999;

  private final House now = new House();
  private final House draft = new House();
  private final House[] images = new House[IMAGES];
  private final Clerk clerk = new Clerk();
  private final Sleuth sleuth = new Sleuth();
  private final Text text = new Text();
  private final Line line = new Line();
  private int above = 0;
  private int below = 1;
  private int refusedBad = 0;
  private int refusedNo = 0;
  private int refusedFull = 0;

  public FigureLeave() {
  }

  // ---- a house

  public int house() {
    int had = now.bills.size;
    now.begin();
    return had;
  }

  public int figure(int f, int kind, int strength) {
    if (!isFigure(f) || !within(kind, 0, Kind.LAST) || !within(strength, 1, MOST_STRENGTH)) {
      return bad();
    }
    int had = 100 * now.kind[f] + now.strength[f];
    now.tellFigure(f, kind, strength);
    return had;
  }

  public int bill(int v, int worth) {
    if (!isNumber(v) || !within(worth, 0, MOST_WORTH)) {
      return bad();
    }
    if (now.bills.size >= MOST_BILLS) {
      return full();
    }
    now.tellBill(v, worth);
    return now.bills.size - 1;
  }

  public int type(int c) {
    if (!within(c, 0, LAST_BYTE)) {
      return bad();
    }
    if (text.size >= MOST_BYTES) {
      return full();
    }
    text.bytes[text.size] = c;
    text.size++;
    return text.size;
  }

  public int clear() {
    int had = text.size;
    text.size = 0;
    return had;
  }

  public int read() {
    int items = text.readInto(draft);
    if (items == NONE) {
      return FAULT_BASE - text.place;
    }
    now.become(draft);
    return items;
  }

  // ---- days

  public int write(int v, int x) {
    if (!isNumber(v) || !isNumber(x)) {
      return bad();
    }
    line.tell(v, x);
    if (!now.takes(now.shift, line)) {
      return no();
    }
    now.remember();
    now.puts(now.shift, line);
    return now.costOf(line);
  }

  public int pay(int b) {
    if (!now.bills.holds(b)) {
      return bad();
    }
    int v = now.bills.number[b];
    line.tell(v, v);
    if (now.bills.isPaid(b) || !now.takes(now.shift, line)) {
      return no();
    }
    now.remember();
    now.puts(now.shift, line);
    now.bills.settle(b);
    return now.bills.earned;
  }

  public int night(int n) {
    if (!within(n, 1, MOST_NIGHTS)) {
      return bad();
    }
    now.remember();
    now.sleep(n);
    return now.shift.day;
  }

  public int undo() {
    if (now.past.size <= 0) {
      return no();
    }
    now.goBack();
    return now.shift.day;
  }

  public int of(int f, int what) {
    if (!isFigure(f)) {
      return bad();
    }
    switch (what) {
      case 0: return now.kind[f];
      case 1: return now.strength[f];
      case 2: return now.shift.worn[f];
      case 3: return now.leftOf(f);
      case 4: return Kind.rest(now.kind[f], now.shift.worn[f]);
      default: return bad();
    }
  }

  public int about(int b, int what) {
    if (!now.bills.holds(b)) {
      return bad();
    }
    switch (what) {
      case 0: return now.bills.number[b];
      case 1: return now.bills.worth[b];
      case 2: return now.bills.isPaid(b) ? 1 : 0;
      default: return bad();
    }
  }

  // ---- lines

  public int wears(int f, int k) {
    if (!isFigure(f) || !isSign(k)) {
      return bad();
    }
    return Kind.wear(now.kind[f], k, now.shift.day);
  }

  public int cost(int v, int x) {
    if (!isNumber(v) || !isNumber(x)) {
      return bad();
    }
    line.tell(v, x);
    return now.costOf(line);
  }

  public int can(int v, int x) {
    if (!isNumber(v) || !isNumber(x)) {
      return bad();
    }
    line.tell(v, x);
    return now.takes(now.shift, line) ? 1 : 0;
  }

  public int best(int v) {
    if (!isNumber(v)) {
      return bad();
    }
    return clerk.cheapest(now, v);
  }

  public int first() {
    return clerk.firstWithout(now);
  }

  public int counts() {
    return clerk.countOn(now);
  }

  public int when(int v, int x) {
    if (!isNumber(v) || !isNumber(x)) {
      return bad();
    }
    return clerk.nightsTill(now, v, x);
  }

  public int most(int what) {
    if (!within(what, 0, 1)) {
      return bad();
    }
    int bits = clerk.dearestBills(now);
    return what == 0 ? bits : now.bills.worthOf(bits);
  }

  public int plan(int b) {
    if (b != NONE && !now.bills.holds(b)) {
      bad();
      return OTHER_BAD;
    }
    int days = clerk.planDays(now);
    return b == NONE ? days : clerk.plannedDay(b);
  }

  public int wanted(int what) {
    if (!within(what, 0, 1)) {
      return bad();
    }
    int f = clerk.mostWanted(now);
    return what == 0 ? f : clerk.numbersWith(now, f);
  }

  // ---- what was written

  public int trace(int f, int x) {
    if (!isFigure(f) || !within(x, 0, MOST_TRACED)) {
      return bad();
    }
    if (now.clues.traces >= MOST_CLUES) {
      return full();
    }
    now.clues.addTrace(f, x);
    return now.clues.traces;
  }

  public int which(int k) {
    if (k < NONE) {
      bad();
      return OTHER_BAD;
    }
    return k == NONE ? sleuth.howManyLines(now) : sleuth.lineAt(now, k);
  }

  public int note(int f, int k, int d, int x) {
    if (!isFigure(f) || !isSign(k) || !within(d, 0, MOST_NOTED_DAY) || !within(x, 0, MOST_NOTED)) {
      return bad();
    }
    if (now.clues.notes >= MOST_CLUES) {
      return full();
    }
    now.clues.addNote(f, k, d, x);
    return now.clues.notes;
  }

  public int forget(int what) {
    if (!within(what, 0, 1)) {
      return bad();
    }
    return what == 0 ? now.clues.dropTraces() : now.clues.dropNotes();
  }

  public int is(int f) {
    if (!isFigure(f)) {
      return bad();
    }
    return now.clues.kindsOf(f);
  }

  public int look(int f) {
    if (!isFigure(f)) {
      return bad();
    }
    return sleuth.nextLook(now.clues.kindsOf(f));
  }

  public int two(int a, int b) {
    if (!now.bills.holds(a) || !now.bills.holds(b) || a == b) {
      return bad();
    }
    if (now.bills.isPaid(a) || now.bills.isPaid(b)) {
      return no();
    }
    return clerk.restingPairs(now, a, b);
  }

  public int odds(int v, int x, int c) {
    if (!isNumber(v) || !isNumber(x) || !within(c, 0, ALL_ODDS)) {
      return bad();
    }
    line.tell(v, x);
    int whole = 1;
    for (int i = 0; i < line.size; i++) {
      whole *= ALL_ODDS;
    }
    setFraction(clerk.luckyWays(now, line, c), whole);
    return 1;
  }

  public int years(int seed, int n) {
    if (!within(seed, 0, LAST_SEED) || !within(n, 0, MOST_NIGHTS)) {
      return bad();
    }
    return clerk.writtenBySeed(now, seed, n);
  }

  // ---- what there is

  public long part(int what) {
    switch (what) {
      case 0: return above;
      case 1: return below;
      default: return bad();
    }
  }

  public int image(int i) {
    if (!within(i, 0, IMAGES - 1)) {
      return bad();
    }
    House kept = images[i];
    if (kept == null) {
      kept = new House();
      images[i] = kept;
    }
    kept.become(now);
    return 1;
  }

  public int from(int i) {
    if (!within(i, 0, IMAGES - 1)) {
      return bad();
    }
    House kept = images[i];
    if (kept == null) {
      return no();
    }
    now.become(kept);
    return 1;
  }

  public int status(int what) {
    switch (what) {
      case 0: return refusedBad;
      case 1: return refusedNo;
      case 2: return refusedFull;
      default:
        bad();
        return NONE;
    }
  }

  public int count(int what) {
    return within(what, 0, 8) ? howMany(what) : bad();
  }

  public long digest() {
    long h = 1493;
    for (int what = 0; what <= 8; what++) {
      h = 31 * h + howMany(what);
    }
    h = now.mixInto(h);
    h = 31 * h + above;
    return 31 * h + below;
  }

  // ---- what the calls share

  private int howMany(int what) {
    switch (what) {
      case 0: return now.bills.size;
      case 1: return now.shift.day;
      case 2: return now.bills.earned;
      case 3: return now.bills.paid;
      case 4: return now.shift.wornTogether();
      case 5: return now.clues.traces;
      case 6: return now.clues.notes;
      case 7: return now.past.size;
      default: return text.size;
    }
  }

  private void setFraction(int top, int bottom) {
    int a = bottom;
    int b = top;
    // Euclid's steps on numbers of 10000 at most stay far below the bound.
    for (int step = 0; step < 100 && b != 0; step++) {
      int left = a % b;
      a = b;
      b = left;
    }
    if (a > 0) {
      above = top / a;
      below = bottom / a;
    }
  }

  private int bad() {
    refusedBad++;
    return BAD;
  }

  private int no() {
    refusedNo++;
    return NO;
  }

  private int full() {
    refusedFull++;
    return FULL;
  }

  private static boolean within(int n, int low, int high) {
    return n >= low && n <= high;
  }

  private static boolean isFigure(int f) {
    return within(f, 0, FIGURES - 1);
  }

  private static boolean isNumber(int v) {
    return within(v, 0, NUMBERS - 1);
  }

  private static boolean isSign(int k) {
    return within(k, 0, SIGNS - 1);
  }

  /** What each kind wears and rests, told by the kind that it is under. */
  private static final class Kind {
    private static final int PROUD = 1, LAZY = 2, SUNDAY = 3, VAIN = 4, OLD = 5;
    private static final int LAST = OLD;
    private static final int PLAIN_WEAR = 2, PLAIN_REST = 3;
    private static final int LAZY_WEAR = 2 * PLAIN_WEAR, LAZY_REST = 2 * PLAIN_REST;

    private static int wear(int kind, int k, int day) {
      switch (kind) {
        case PROUD: return PLAIN_WEAR + k;
        case LAZY: return LAZY_WEAR;
        case SUNDAY: return day % 7 == 6 ? 0 : PLAIN_WEAR;
        case VAIN: return k == 0 ? 0 : PLAIN_WEAR + k + 1;
        case OLD: return day % 2 == 1 ? LAZY_WEAR + 1 : LAZY_WEAR;
        default: return PLAIN_WEAR;
      }
    }

    private static int rest(int kind, int worn) {
      switch (kind) {
        case LAZY: return LAZY_REST;
        case SUNDAY: return PLAIN_REST - 1;
        case OLD: return Math.min(worn / 2, LAZY_REST);
        default: return PLAIN_REST;
      }
    }
  }

  /** The signs of a number v by a number x. */
  private static final class Line {
    private final int[] signs = new int[SIGNS];
    private int size = 0;

    private void tell(int v, int x) {
      size = 0;
      addNumber(x);
      if (x != v) {
        addNumber(Math.abs(v - x));
      }
    }

    private void addNumber(int n) {
      if (n < 0 || n >= NUMBERS || size > SIGNS - 2) {
        return;
      }
      if (n > 9) {
        signs[size] = n / 10;
        size++;
      }
      signs[size] = n % 10;
      size++;
    }
  }

  /** How worn all figures are on a day: the house's own, or one that a clerk tries things on. */
  private static final class Shift {
    private final int[] worn = new int[FIGURES];
    private int day = 0;

    private void begin() {
      Arrays.fill(worn, 0);
      day = 0;
    }

    private void become(Shift other) {
      System.arraycopy(other.worn, 0, worn, 0, FIGURES);
      day = other.day;
    }

    private int wornTogether() {
      int sum = 0;
      for (int f = 0; f < FIGURES; f++) {
        sum += worn[f];
      }
      return sum;
    }
  }

  /** The bills as they came, who is paid (bits), and what was earned. */
  private static final class Bills {
    private final int[] number = new int[MOST_BILLS];
    private final int[] worth = new int[MOST_BILLS];
    private int size = 0;
    private int paid = 0;
    private int earned = 0;

    private void begin() {
      size = 0;
      paid = 0;
      earned = 0;
    }

    private void become(Bills other) {
      System.arraycopy(other.number, 0, number, 0, MOST_BILLS);
      System.arraycopy(other.worth, 0, worth, 0, MOST_BILLS);
      size = other.size;
      paid = other.paid;
      earned = other.earned;
    }

    private boolean holds(int b) {
      return b >= 0 && b < size && b < MOST_BILLS;
    }

    private boolean isPaid(int b) {
      return (paid >> b & 1) == 1;
    }

    private void add(int v, int value) {
      if (size < MOST_BILLS) {
        number[size] = v;
        worth[size] = value;
        size++;
      }
    }

    private void settle(int b) {
      if (holds(b)) {
        paid |= 1 << b;
        earned += worth[b];
      }
    }

    private int worthOf(int bits) {
      int sum = 0;
      for (int b = 0; b < MOST_BILLS; b++) {
        if ((bits >> b & 1) == 1) {
          sum += worth[b];
        }
      }
      return sum;
    }
  }

  /** Traces and notes, as they came. */
  private static final class Clues {
    private final int[] traceFigure = new int[MOST_CLUES];
    private final int[] traceMore = new int[MOST_CLUES];
    private int traces = 0;
    private final int[] noteFigure = new int[MOST_CLUES];
    private final int[] noteSign = new int[MOST_CLUES];
    private final int[] noteDay = new int[MOST_CLUES];
    private final int[] noteMore = new int[MOST_CLUES];
    private int notes = 0;

    private void become(Clues other) {
      System.arraycopy(other.traceFigure, 0, traceFigure, 0, MOST_CLUES);
      System.arraycopy(other.traceMore, 0, traceMore, 0, MOST_CLUES);
      traces = other.traces;
      System.arraycopy(other.noteFigure, 0, noteFigure, 0, MOST_CLUES);
      System.arraycopy(other.noteSign, 0, noteSign, 0, MOST_CLUES);
      System.arraycopy(other.noteDay, 0, noteDay, 0, MOST_CLUES);
      System.arraycopy(other.noteMore, 0, noteMore, 0, MOST_CLUES);
      notes = other.notes;
    }

    private void addTrace(int f, int x) {
      if (traces < MOST_CLUES) {
        traceFigure[traces] = f;
        traceMore[traces] = x;
        traces++;
      }
    }

    private void addNote(int f, int k, int d, int x) {
      if (notes < MOST_CLUES) {
        noteFigure[notes] = f;
        noteSign[notes] = k;
        noteDay[notes] = d;
        noteMore[notes] = x;
        notes++;
      }
    }

    private int dropTraces() {
      int had = traces;
      traces = 0;
      return had;
    }

    private int dropNotes() {
      int had = notes;
      notes = 0;
      return had;
    }

    private int kindsOf(int f) {
      int bits = 0;
      for (int kind = 0; kind <= Kind.LAST; kind++) {
        if (mayBe(f, kind)) {
          bits |= 1 << kind;
        }
      }
      return bits;
    }

    private boolean mayBe(int f, int kind) {
      for (int i = 0; i < notes && i < MOST_CLUES; i++) {
        if (noteFigure[i] == f && Kind.wear(kind, noteSign[i], noteDay[i]) != noteMore[i]) {
          return false;
        }
      }
      return true;
    }

    private long mixInto(long start) {
      long h = start;
      for (int i = 0; i < traces && i < MOST_CLUES; i++) {
        h = 31 * h + traceFigure[i];
        h = 31 * h + traceMore[i];
      }
      for (int i = 0; i < notes && i < MOST_CLUES; i++) {
        h = 31 * h + noteFigure[i];
        h = 31 * h + noteSign[i];
        h = 31 * h + noteDay[i];
        h = 31 * h + noteMore[i];
      }
      return h;
    }
  }

  /** What may be undone, the oldest first; one row, so that an image is one copy of it. */
  private static final class Past {
    private static final int DAY = FIGURES, PAID = FIGURES + 1, EARNED = FIGURES + 2;
    private static final int WIDTH = FIGURES + 3;

    private final int[] rows = new int[MOST_UNDONE * WIDTH];
    private int size = 0;

    private void become(Past other) {
      System.arraycopy(other.rows, 0, rows, 0, MOST_UNDONE * WIDTH);
      size = other.size;
    }

    private void push(Shift shift, Bills bills) {
      if (size >= MOST_UNDONE) {
        System.arraycopy(rows, WIDTH, rows, 0, (MOST_UNDONE - 1) * WIDTH);
        size = MOST_UNDONE - 1;
      }
      int at = size * WIDTH;
      System.arraycopy(shift.worn, 0, rows, at, FIGURES);
      rows[at + DAY] = shift.day;
      rows[at + PAID] = bills.paid;
      rows[at + EARNED] = bills.earned;
      size++;
    }

    private void pop(Shift shift, Bills bills) {
      if (size > 0 && size <= MOST_UNDONE) {
        size--;
        int at = size * WIDTH;
        System.arraycopy(rows, at, shift.worn, 0, FIGURES);
        shift.day = rows[at + DAY];
        bills.paid = rows[at + PAID];
        bills.earned = rows[at + EARNED];
      }
    }
  }

  /** All that an image keeps. */
  private static final class House {
    private final int[] kind = new int[FIGURES];
    private final int[] strength = new int[FIGURES];
    private final Shift shift = new Shift();
    private final Bills bills = new Bills();
    private final Clues clues = new Clues();
    private final Past past = new Past();

    private House() {
      Arrays.fill(strength, FIRST_STRENGTH);
    }

    private void begin() {
      Arrays.fill(kind, 0);
      Arrays.fill(strength, FIRST_STRENGTH);
      shift.begin();
      bills.begin();
      clues.dropTraces();
      clues.dropNotes();
      past.size = 0;
    }

    private void become(House other) {
      System.arraycopy(other.kind, 0, kind, 0, FIGURES);
      System.arraycopy(other.strength, 0, strength, 0, FIGURES);
      shift.become(other.shift);
      bills.become(other.bills);
      clues.become(other.clues);
      past.become(other.past);
    }

    private void tellFigure(int f, int newKind, int newStrength) {
      if (isFigure(f)) {
        kind[f] = newKind;
        strength[f] = newStrength;
        past.size = 0;
      }
    }

    private void tellBill(int v, int value) {
      bills.add(v, value);
      past.size = 0;
    }

    private void remember() {
      past.push(shift, bills);
    }

    private void goBack() {
      past.pop(shift, bills);
    }

    private void sleep(int nights) {
      for (int i = 0; i < nights; i++) {
        rests(shift);
        shift.day = Math.min(shift.day, LAST_DAY);
      }
    }

    private void rests(Shift s) {
      for (int f = 0; f < FIGURES; f++) {
        s.worn[f] = Math.max(0, s.worn[f] - Kind.rest(kind[f], s.worn[f]));
      }
      s.day++;
    }

    private int costOf(Line l) {
      int sum = 0;
      for (int k = 0; k < l.size; k++) {
        sum += Kind.wear(kind[l.signs[k]], k, shift.day);
      }
      return sum;
    }

    /** Puts a line down on a shift, or leaves the shift as it was if the line can not be. */
    private boolean puts(Shift s, Line l) {
      wearBy(s, l, 1);
      if (bears(s, l)) {
        return true;
      }
      wearBy(s, l, -1);
      return false;
    }

    private boolean takes(Shift s, Line l) {
      wearBy(s, l, 1);
      boolean borne = bears(s, l);
      wearBy(s, l, -1);
      return borne;
    }

    private void wearBy(Shift s, Line l, int times) {
      for (int k = 0; k < l.size; k++) {
        int f = l.signs[k];
        s.worn[f] += times * Kind.wear(kind[f], k, s.day);
      }
    }

    private boolean bears(Shift s, Line l) {
      for (int k = 0; k < l.size; k++) {
        int f = l.signs[k];
        if (s.worn[f] > strength[f]) {
          return false;
        }
      }
      return true;
    }

    private int leftOf(int f) {
      int room = strength[f] - shift.worn[f];
      if (room < 0) {
        return 0;
      }
      int each = Kind.wear(kind[f], 0, shift.day);
      return each <= 0 ? MOST_LEFT : Math.min(MOST_LEFT, room / each);
    }

    private long mixInto(long start) {
      long h = start;
      for (int f = 0; f < FIGURES; f++) {
        h = 31 * h + kind[f];
        h = 31 * h + strength[f];
        h = 31 * h + shift.worn[f];
      }
      for (int b = 0; b < bills.size && b < MOST_BILLS; b++) {
        h = 31 * h + bills.number[b];
        h = 31 * h + bills.worth[b];
      }
      return clues.mixInto(h);
    }
  }

  /** Says what can be written; what it tries is tried on a shift of its own or taken back. */
  private static final class Clerk {
    private static final int PLAN_STEPS = 1000000;

    private final Line line = new Line();
    private final Shift trial = new Shift();
    private final int[] openBills = new int[MOST_BILLS];
    private final int[] chosenDay = new int[MOST_BILLS];
    private int opens = 0;
    private int daysPlanned = 0;

    private int cheapest(House h, int v) {
      int least = NONE;
      int found = NONE;
      for (int x = 0; x < NUMBERS; x++) {
        line.tell(v, x);
        int price = h.costOf(line);
        boolean better = found == NONE || price < least || price == least && x == v;
        if (better && h.takes(h.shift, line)) {
          least = price;
          found = x;
        }
      }
      return found;
    }

    private int firstWithout(House h) {
      for (int v = 0; v < NUMBERS; v++) {
        if (!byAny(h, v)) {
          return v;
        }
      }
      return NONE;
    }

    private boolean byAny(House h, int v) {
      for (int x = 0; x < NUMBERS; x++) {
        line.tell(v, x);
        if (h.takes(h.shift, line)) {
          return true;
        }
      }
      return false;
    }

    private int countOn(House h) {
      trial.become(h.shift);
      for (int v = 0; v < NUMBERS; v++) {
        line.tell(v, v);
        if (!h.puts(trial, line)) {
          return v;
        }
      }
      return NUMBERS;
    }

    private int nightsTill(House h, int v, int x) {
      line.tell(v, x);
      trial.become(h.shift);
      for (int nights = 0; nights <= MOST_NIGHTS; nights++) {
        if (h.takes(trial, line)) {
          return nights;
        }
        h.rests(trial);
      }
      return NONE;
    }

    private int dearestBills(House h) {
      int found = 0;
      int most = 0;
      for (int bits = 1; bits < 1 << h.bills.size; bits++) {
        if ((bits & h.bills.paid) == 0) {
          int worth = h.bills.worthOf(bits);
          if (worth > most && goTogether(h, bits)) {
            most = worth;
            found = bits;
          }
        }
      }
      return found;
    }

    /** Lines only ever wear more, so that all can be together if each can be behind the ones ahead. */
    private boolean goTogether(House h, int bits) {
      trial.become(h.shift);
      for (int b = 0; b < h.bills.size && b < MOST_BILLS; b++) {
        if ((bits >> b & 1) == 1) {
          line.tell(h.bills.number[b], h.bills.number[b]);
          if (!h.puts(trial, line)) {
            return false;
          }
        }
      }
      return true;
    }

    private int planDays(House h) {
      opens = 0;
      for (int b = 0; b < h.bills.size && b < MOST_BILLS; b++) {
        if (!h.bills.isPaid(b) && opens < MOST_BILLS) {
          openBills[opens] = b;
          opens++;
        }
      }
      daysPlanned = opens == 0 ? 0 : NONE;
      for (int days = 1; days <= PLAN_DAYS && daysPlanned == NONE; days++) {
        if (planWithin(h, days)) {
          daysPlanned = days;
        }
      }
      return daysPlanned;
    }

    private int plannedDay(int b) {
      for (int i = 0; i < opens && i < MOST_BILLS; i++) {
        if (openBills[i] == b && daysPlanned != NONE) {
          return chosenDay[i];
        }
      }
      return NONE;
    }

    /**
     * Goes through the ways in rising order; a start that can not be is left at once, because one
     * bill more makes no figure less worn on any day.
     */
    private boolean planWithin(House h, int days) {
      int at = 0;
      chosenDay[0] = 0;
      for (int step = 0; step < PLAN_STEPS && at >= 0 && at < opens && at < MOST_BILLS; step++) {
        if (chosenDay[at] >= days) {
          at--;
          if (at >= 0) {
            chosenDay[at]++;
          }
        } else if (holdsSoFar(h, at + 1, days)) {
          at++;
          if (at < opens && at < MOST_BILLS) {
            chosenDay[at] = 0;
          }
        } else {
          chosenDay[at]++;
        }
      }
      return at == opens;
    }

    private boolean holdsSoFar(House h, int bills, int days) {
      trial.become(h.shift);
      for (int day = 0; day < days; day++) {
        if (day > 0) {
          h.rests(trial);
        }
        for (int i = 0; i < bills && i < MOST_BILLS; i++) {
          if (chosenDay[i] == day) {
            int v = h.bills.number[openBills[i]];
            line.tell(v, v);
            if (!h.puts(trial, line)) {
              return false;
            }
          }
        }
      }
      return true;
    }

    private int mostWanted(House h) {
      int found = 0;
      int most = NONE;
      for (int f = 0; f < FIGURES; f++) {
        int numbers = numbersWith(h, f);
        if (numbers > most) {
          most = numbers;
          found = f;
        }
      }
      return found;
    }

    private int numbersWith(House h, int f) {
      if (!isFigure(f)) {
        return 0;
      }
      int sum = 0;
      h.strength[f] += MORE_STRENGTH;
      for (int v = 0; v < NUMBERS; v++) {
        line.tell(v, v);
        if (h.takes(h.shift, line)) {
          sum++;
        }
      }
      h.strength[f] -= MORE_STRENGTH;
      return sum;
    }

    private int restingPairs(House h, int a, int b) {
      int bits = 0;
      for (int pair = 0; pair < 4; pair++) {
        boolean aRests = gain(h, a, a, b, pair) >= gain(h, a, a, b, pair ^ 1);
        boolean bRests = gain(h, b, a, b, pair) >= gain(h, b, a, b, pair ^ 2);
        if (aRests && bRests) {
          bits |= 1 << pair;
        }
      }
      return bits;
    }

    private int gain(House h, int own, int a, int b, int pair) {
      int worth = h.bills.worth[own];
      boolean waits = (pair & (own == a ? 1 : 2)) == 0;
      if (waits) {
        return worth / 2;
      }
      int bits = ((pair & 1) == 0 ? 0 : 1 << a) | ((pair & 2) == 0 ? 0 : 1 << b);
      return goTogether(h, bits) ? worth : 0;
    }

    /** Of the 10 to the number of signs like ways, those by which the line can be. */
    private int luckyWays(House h, Line l, int c) {
      int sum = 0;
      for (int free = 0; free < 1 << l.size; free++) {
        if (bearsFree(h, l, free)) {
          sum += waysOf(l.size, free, c);
        }
      }
      return sum;
    }

    private boolean bearsFree(House h, Line l, int free) {
      trial.become(h.shift);
      for (int k = 0; k < l.size; k++) {
        if ((free >> k & 1) == 0) {
          int f = l.signs[k];
          trial.worn[f] += Kind.wear(h.kind[f], k, trial.day);
        }
      }
      return h.bears(trial, l);
    }

    private int waysOf(int signs, int free, int c) {
      int ways = 1;
      for (int k = 0; k < signs; k++) {
        ways *= (free >> k & 1) == 1 ? c : ALL_ODDS - c;
      }
      return ways;
    }

    private int writtenBySeed(House h, int seed, int days) {
      long x = seed;
      int written = 0;
      trial.become(h.shift);
      for (int i = 0; i < days; i++) {
        x = (x * 1103515245L + 12345L) % 2147483648L;
        int v = (int) (x / 65536 % NUMBERS);
        line.tell(v, v);
        if (h.puts(trial, line)) {
          written++;
        }
        h.rests(trial);
      }
      return written;
    }
  }

  /** Finds out what was written, and what a figure is. */
  private static final class Sleuth {
    private final Line line = new Line();

    private int howManyLines(House h) {
      int sum = 0;
      for (int name = 0; name < NUMBERS * NUMBERS; name++) {
        if (fitsTraces(h, name)) {
          sum++;
        }
      }
      return sum;
    }

    private int lineAt(House h, int place) {
      int ahead = 0;
      for (int name = 0; name < NUMBERS * NUMBERS; name++) {
        if (fitsTraces(h, name)) {
          if (ahead == place) {
            return name;
          }
          ahead++;
        }
      }
      return NOT_SO_MANY;
    }

    private boolean fitsTraces(House h, int name) {
      line.tell(name / NUMBERS, name % NUMBERS);
      for (int i = 0; i < h.clues.traces && i < MOST_CLUES; i++) {
        if (moreWorn(h, h.clues.traceFigure[i]) != h.clues.traceMore[i]) {
          return false;
        }
      }
      return true;
    }

    private int moreWorn(House h, int f) {
      int sum = 0;
      for (int k = 0; k < line.size; k++) {
        if (line.signs[k] == f) {
          sum += Kind.wear(h.kind[f], k, h.shift.day);
        }
      }
      return sum;
    }

    private int nextLook(int kinds) {
      if (kinds == 0) {
        return NONE;
      }
      int found = NONE;
      int fewest = 0;
      for (int k = 0; k < SIGNS; k++) {
        for (int d = 0; d < LOOK_DAYS; d++) {
          int alike = mostAlike(kinds, k, d);
          if (found == NONE || alike < fewest) {
            fewest = alike;
            found = 100 * k + d;
          }
        }
      }
      return found;
    }

    private int mostAlike(int kinds, int k, int d) {
      int most = 0;
      for (int kind = 0; kind <= Kind.LAST; kind++) {
        int alike = 0;
        for (int other = 0; other <= Kind.LAST; other++) {
          boolean both = (kinds >> kind & 1) == 1 && (kinds >> other & 1) == 1;
          if (both && Kind.wear(kind, k, d) == Kind.wear(other, k, d)) {
            alike++;
          }
        }
        most = Math.max(most, alike);
      }
      return most;
    }
  }

  /** THE TEXT and the reading of it, token by token. */
  private static final class Text {
    private static final int END = 0, WORD = 1, NUMBER = 2, STOP = 3, BLANK = 4, NOTHING = 5;

    private final int[] bytes = new int[MOST_BYTES];
    private final Line line = new Line();
    private int size = 0;
    private int at = 0;
    private int place = 0;
    private int sort = END;
    private int value = 0;

    /** How many items a house was told by; NONE with the fault's place kept, if there is one. */
    private int readInto(House h) {
      h.begin();
      at = 0;
      nextToken();
      for (int items = 0; items <= MOST_BYTES; items++) {
        if (sort == END && items > 0) {
          return items;
        }
        if (!readItem(h, items == 0)) {
          return NONE;
        }
        nextToken();
      }
      return NONE;
    }

    private boolean readItem(House h, boolean firstOfAll) {
      if (sort != WORD) {
        return false;
      }
      boolean told;
      if (firstOfAll) {
        told = isWord("house");
      } else if (isWord("figure")) {
        told = readFigure(h);
      } else if (isWord("bill")) {
        told = readBill(h);
      } else if (isWord("write")) {
        told = readWrite(h);
      } else {
        told = isWord("night") && readNight(h);
      }
      return told && nextIsStop();
    }

    private boolean readFigure(House h) {
      if (!nextIsNumber(0, FIGURES - 1)) {
        return false;
      }
      int f = value;
      if (!nextIsNumber(0, Kind.LAST)) {
        return false;
      }
      int kind = value;
      if (!nextIsNumber(1, MOST_STRENGTH)) {
        return false;
      }
      h.tellFigure(f, kind, value);
      return true;
    }

    private boolean readBill(House h) {
      if (h.bills.size >= MOST_BILLS || !nextIsNumber(0, NUMBERS - 1)) {
        return false;
      }
      int v = value;
      if (!nextIsNumber(0, MOST_WORTH)) {
        return false;
      }
      h.tellBill(v, value);
      return true;
    }

    private boolean readWrite(House h) {
      if (!nextIsNumber(0, NUMBERS - 1)) {
        return false;
      }
      int v = value;
      if (!nextIsNumber(0, NUMBERS - 1)) {
        return false;
      }
      line.tell(v, value);
      return h.puts(h.shift, line);
    }

    private boolean readNight(House h) {
      if (!nextIsNumber(1, MOST_NIGHTS)) {
        return false;
      }
      h.sleep(value);
      return true;
    }

    private boolean nextIsNumber(int low, int high) {
      nextToken();
      return sort == NUMBER && within(value, low, high);
    }

    private boolean nextIsStop() {
      nextToken();
      return sort == STOP;
    }

    private void nextToken() {
      while (at < size && sortAt(at) == BLANK) {
        at++;
      }
      place = at;
      sort = sortAt(at);
      if (sort == WORD || sort == NUMBER) {
        while (at < size && sortAt(at) == sort) {
          at++;
        }
      } else if (at < size) {
        at++;
      }
      if (sort == NUMBER) {
        weighNumber();
      }
    }

    private void weighNumber() {
      if (at - place > 2) {
        sort = NOTHING;
        return;
      }
      value = 0;
      for (int i = place; i < at && i < MOST_BYTES; i++) {
        value = 10 * value + bytes[i] - '0';
      }
    }

    private boolean isWord(String word) {
      if (at - place != word.length() || at > MOST_BYTES) {
        return false;
      }
      for (int i = 0; i < word.length(); i++) {
        if (bytes[place + i] != word.charAt(i)) {
          return false;
        }
      }
      return true;
    }

    private int sortAt(int i) {
      if (i < 0 || i >= size || i >= MOST_BYTES) {
        return END;
      }
      int c = bytes[i];
      if (c >= 'a' && c <= 'z') {
        return WORD;
      }
      if (c >= '0' && c <= '9') {
        return NUMBER;
      }
      if (c == ' ') {
        return BLANK;
      }
      return c == ';' ? STOP : NOTHING;
    }
  }
}
