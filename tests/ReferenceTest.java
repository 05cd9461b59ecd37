import java.math.BigInteger;
import java.util.ArrayDeque;
import java.util.ArrayList;
import java.util.Arrays;
import java.util.Deque;
import java.util.List;
import java.util.Random;
import java.util.regex.Matcher;
import java.util.regex.Pattern;

/**
 * Long runs of calls, drawn by fixed seeds, on FigureLeave and on a second, slow telling of the
 * document with other means (texts, lists, tries of all ways); every answer and every digest must agree.
 */
public final class ReferenceTest {
  /** What each kind does, as the document's tree of kinds. */
  private static class Plain {
    int wears(int k, int d) { return 2; }
    int rests(int w) { return 3; }
  }
  private static class Proud extends Plain {
    @Override int wears(int k, int d) { return super.wears(k, d) + k; }
  }
  private static class Lazy extends Plain {
    @Override int wears(int k, int d) { return 2 * super.wears(k, d); }
    @Override int rests(int w) { return 2 * super.rests(w); }
  }
  private static final class Sunday extends Plain {
    @Override int wears(int k, int d) { return d % 7 == 6 ? 0 : super.wears(k, d); }
    @Override int rests(int w) { return super.rests(w) - 1; }
  }
  private static final class Vain extends Proud {
    @Override int wears(int k, int d) { return k == 0 ? 0 : super.wears(k, d) + 1; }
  }
  private static final class Old extends Lazy {
    @Override int wears(int k, int d) { return super.wears(k, d) + (d % 2 == 1 ? 1 : 0); }
    @Override int rests(int w) { return Math.min(w / 2, super.rests(w)); }
  }
  private static final Plain[] KINDS = {new Plain(), new Proud(), new Lazy(), new Sunday(), new Vain(), new Old()};

  private record Moment(int[] worn, int day, int paid, int earned) { }

  private static final class State {
    int[] kind = new int[10], strength = new int[10], worn = new int[10];
    int day, paid, earned;
    List<int[]> bills = new ArrayList<>(), traces = new ArrayList<>(), notes = new ArrayList<>();
    Deque<Moment> past = new ArrayDeque<>();

    State() { Arrays.fill(strength, 20); }

    State copy() {
      State s = new State();
      s.kind = kind.clone();
      s.strength = strength.clone();
      s.worn = worn.clone();
      s.day = day;
      s.paid = paid;
      s.earned = earned;
      s.bills = new ArrayList<>(bills);
      s.traces = new ArrayList<>(traces);
      s.notes = new ArrayList<>(notes);
      s.past = new ArrayDeque<>(past);
      return s;
    }

    static String line(int v, int x) { return x == v ? "" + v : x < v ? "" + x + (v - x) : "" + x + (x - v); }

    int wear(int f, int k) { return KINDS[kind[f]].wears(k, day); }

    int cost(int v, int x) {
      String l = line(v, x);
      int sum = 0;
      for (int k = 0; k < l.length(); k++) sum += wear(l.charAt(k) - '0', k);
      return sum;
    }

    /** This state behind all these lines, or null if they can not be together. */
    State behind(List<String> lines) {
      State s = copy();
      boolean[] in = new boolean[10];
      for (String l : lines) {
        for (int k = 0; k < l.length(); k++) {
          int f = l.charAt(k) - '0';
          s.worn[f] += s.wear(f, k);
          in[f] = true;
        }
      }
      for (int f = 0; f < 10; f++) if (in[f] && s.worn[f] > s.strength[f]) return null;
      return s;
    }

    boolean can(int v, int x) { return behind(List.of(line(v, x))) != null; }

    void night() {
      for (int f = 0; f < 10; f++) worn[f] = Math.max(0, worn[f] - KINDS[kind[f]].rests(worn[f]));
      day++;
    }

    void realNight() {
      night();
      if (day > 9999) day = 9999;
    }

    void keep() {
      past.addLast(new Moment(worn.clone(), day, paid, earned));
      if (past.size() > 8) past.removeFirst();
    }
  }

  private static final class Reference {
    State s = new State();
    State[] images = new State[2];
    StringBuilder text = new StringBuilder();
    long above = 0, below = 1;
    int[] status = new int[3];

    int refuse(int why) { status[-2 - why]++; return why; }
    static boolean in(int n, int low, int high) { return low <= n && n <= high; }
    static boolean num(int... all) { return Arrays.stream(all).allMatch(n -> in(n, 0, 99)); }
    boolean isBill(int b) { return in(b, 0, s.bills.size() - 1); }
    boolean paid(int b) { return (s.paid & 1 << b) != 0; }
    static String self(int v) { return State.line(v, v); }

    int house() { int n = s.bills.size(); s = new State(); return n; }
    int figure(int f, int k, int st) {
      if (!in(f, 0, 9) || !in(k, 0, 5) || !in(st, 1, 60)) return refuse(-2);
      int had = 100 * s.kind[f] + s.strength[f];
      s.kind[f] = k;
      s.strength[f] = st;
      s.past.clear();
      return had;
    }
    int bill(int v, int w) {
      if (!num(v, w)) return refuse(-2);
      if (s.bills.size() == 6) return refuse(-4);
      s.bills.add(new int[] {v, w});
      s.past.clear();
      return s.bills.size() - 1;
    }
    int type(int c) {
      if (!in(c, 0, 127)) return refuse(-2);
      if (text.length() == 150) return refuse(-4);
      text.append((char) c);
      return text.length();
    }
    int clear() { int n = text.length(); text.setLength(0); return n; }

    private static final String[] SHAPES = {"house", "figure 0-9 0-5 1-60", "bill 0-99 0-99", "write 0-99 0-99", "night 1-60"};
    int read() {
      Matcher m = Pattern.compile("[a-z]+|[0-9]+|[^ ]", Pattern.DOTALL).matcher(text);
      List<String> tokens = new ArrayList<>();
      List<Integer> places = new ArrayList<>();
      while (m.find()) { tokens.add(m.group()); places.add(m.start()); }
      State t = new State();
      int items = 0, i = 0;
      while (true) {
        if (i == tokens.size() && items > 0) { s = t; return items; }
        if (i == tokens.size()) return -10 - text.length();
        String word = tokens.get(i);
        String[] shape = null;
        for (String one : SHAPES) if (one.split(" ")[0].equals(word)) shape = one.split(" ");
        if (shape == null || word.equals("house") != (items == 0)) return -10 - places.get(i);
        if (word.equals("bill") && t.bills.size() == 6) return -10 - places.get(i);
        int[] args = new int[4];
        for (int a = 1; a < shape.length; a++) {
          i++;
          if (i == tokens.size()) return -10 - text.length();
          String[] range = shape[a].split("-");
          if (!tokens.get(i).matches("[0-9]{1,2}")) return -10 - places.get(i);
          args[a] = Integer.parseInt(tokens.get(i));
          if (!in(args[a], Integer.parseInt(range[0]), Integer.parseInt(range[1]))) return -10 - places.get(i);
        }
        if (word.equals("write")) {
          if (!t.can(args[1], args[2])) return -10 - places.get(i);
          t = t.behind(List.of(State.line(args[1], args[2])));
        }
        if (word.equals("figure")) { t.kind[args[1]] = args[2]; t.strength[args[1]] = args[3]; }
        if (word.equals("bill")) t.bills.add(new int[] {args[1], args[2]});
        if (word.equals("night")) for (int n = 0; n < args[1]; n++) t.realNight();
        i++;
        if (i == tokens.size()) return -10 - text.length();
        if (!tokens.get(i).equals(";")) return -10 - places.get(i);
        i++;
        items++;
      }
    }

    int write(int v, int x) {
      if (!num(v, x)) return refuse(-2);
      State t = s.behind(List.of(State.line(v, x)));
      if (t == null) return refuse(-3);
      int cost = s.cost(v, x);
      s.keep();
      s.worn = t.worn;
      return cost;
    }
    int pay(int b) {
      if (!isBill(b)) return refuse(-2);
      if (paid(b)) return refuse(-3);
      State t = s.behind(List.of(self(s.bills.get(b)[0])));
      if (t == null) return refuse(-3);
      s.keep();
      s.worn = t.worn;
      s.paid += 1 << b;
      s.earned += s.bills.get(b)[1];
      return s.earned;
    }
    int night(int n) {
      if (!in(n, 1, 60)) return refuse(-2);
      s.keep();
      for (int i = 0; i < n; i++) s.realNight();
      return s.day;
    }
    int undo() {
      if (s.past.isEmpty()) return refuse(-3);
      Moment m = s.past.removeLast();
      s.worn = m.worn().clone();
      s.day = m.day();
      s.paid = m.paid();
      s.earned = m.earned();
      return s.day;
    }
    int of(int f, int what) {
      if (!in(f, 0, 9) || !in(what, 0, 4)) return refuse(-2);
      int left = 0;
      for (int w = s.worn[f] + s.wear(f, 0); w <= s.strength[f] && left < 99; w += s.wear(f, 0)) left++;
      return new int[] {s.kind[f], s.strength[f], s.worn[f], left, KINDS[s.kind[f]].rests(s.worn[f])}[what];
    }
    int about(int b, int what) {
      if (!isBill(b) || !in(what, 0, 2)) return refuse(-2);
      return what == 2 ? s.paid >> b & 1 : s.bills.get(b)[what];
    }
    int wears(int f, int k) { return in(f, 0, 9) && in(k, 0, 3) ? s.wear(f, k) : refuse(-2); }
    int cost(int v, int x) { return num(v, x) ? s.cost(v, x) : refuse(-2); }
    int can(int v, int x) { return !num(v, x) ? refuse(-2) : s.can(v, x) ? 1 : 0; }
    int best(int v) {
      if (!num(v)) return refuse(-2);
      int least = Integer.MAX_VALUE;
      for (int x = 0; x < 100; x++) if (s.can(v, x)) least = Math.min(least, s.cost(v, x));
      if (s.can(v, v) && s.cost(v, v) == least) return v;
      for (int x = 0; x < 100; x++) if (s.can(v, x) && s.cost(v, x) == least) return x;
      return -1;
    }
    int first() {
      next:
      for (int v = 0; v < 100; v++) {
        for (int x = 0; x < 100; x++) if (s.can(v, x)) continue next;
        return v;
      }
      return -1;
    }
    int counts() {
      State t = s;
      for (int v = 0; v < 100; v++) {
        t = t.behind(List.of(self(v)));
        if (t == null) return v;
      }
      return 100;
    }
    int when(int v, int x) {
      if (!num(v, x)) return refuse(-2);
      State t = s.copy();
      for (int n = 0; n <= 60; n++) {
        if (t.can(v, x)) return n;
        t.night();
      }
      return -1;
    }
    int most(int what) {
      if (!in(what, 0, 1)) return refuse(-2);
      int bestWorth = -1, bestBits = 0;
      for (int bits = 0; bits < 64; bits++) {
        if (bits >> s.bills.size() != 0 || (bits & s.paid) != 0) continue;
        List<String> lines = new ArrayList<>();
        int worth = 0;
        for (int b = 0; b < s.bills.size(); b++) {
          if ((bits & 1 << b) != 0) { lines.add(self(s.bills.get(b)[0])); worth += s.bills.get(b)[1]; }
        }
        if (worth > bestWorth && s.behind(lines) != null) { bestWorth = worth; bestBits = bits; }
      }
      return what == 0 ? bestBits : bestWorth;
    }
    int plan(int b) {
      if (b != -1 && !isBill(b)) { refuse(-2); return -10; }
      List<Integer> open = new ArrayList<>();
      for (int i = 0; i < s.bills.size(); i++) if (!paid(i)) open.add(i);
      int[] bestWay = null;
      int fewest = 5;
      int ways = 1 << 2 * open.size();
      for (int code = 0; code < ways; code++) {
        int[] way = new int[open.size()];
        int last = -1;
        for (int i = 0; i < way.length; i++) {
          way[i] = code >> 2 * (way.length - 1 - i) & 3;
          last = Math.max(last, way[i]);
        }
        if (last + 1 < fewest && goes(open, way)) { fewest = last + 1; bestWay = way; }
      }
      if (bestWay == null) return -1;
      if (b == -1) return fewest;
      return open.contains(b) ? bestWay[open.indexOf(b)] : -1;
    }
    boolean goes(List<Integer> open, int[] way) {
      State t = s.copy();
      for (int d = 0; d < 4; d++) {
        List<String> lines = new ArrayList<>();
        for (int i = 0; i < way.length; i++) if (way[i] == d) lines.add(self(s.bills.get(open.get(i))[0]));
        t = t.behind(lines);
        if (t == null) return false;
        t.night();
      }
      return true;
    }
    int wanted(int what) {
      if (!in(what, 0, 1)) return refuse(-2);
      int[] many = new int[10];
      for (int f = 0; f < 10; f++) {
        State t = s.copy();
        t.strength[f] += 10;
        for (int v = 0; v < 100; v++) if (t.can(v, v)) many[f]++;
      }
      int max = Arrays.stream(many).max().getAsInt();
      int f = 0;
      while (many[f] != max) f++;
      return what == 0 ? f : max;
    }
    int trace(int f, int x) {
      if (!in(f, 0, 9) || !in(x, 0, 40)) return refuse(-2);
      if (s.traces.size() == 6) return refuse(-4);
      s.traces.add(new int[] {f, x});
      return s.traces.size();
    }
    int which(int k) {
      if (k < -1) { refuse(-2); return -10; }
      List<Integer> fits = new ArrayList<>();
      for (int v = 0; v < 100; v++) {
        for (int x = 0; x < 100; x++) {
          int[] more = new int[10];
          String l = State.line(v, x);
          for (int i = 0; i < l.length(); i++) more[l.charAt(i) - '0'] += s.wear(l.charAt(i) - '0', i);
          if (s.traces.stream().allMatch(t -> more[t[0]] == t[1])) fits.add(100 * v + x);
        }
      }
      return k == -1 ? fits.size() : k < fits.size() ? fits.get(k) : -5;
    }
    int note(int f, int k, int d, int x) {
      if (!in(f, 0, 9) || !in(k, 0, 3) || !in(d, 0, 99) || !in(x, 0, 20)) return refuse(-2);
      if (s.notes.size() == 6) return refuse(-4);
      s.notes.add(new int[] {f, k, d, x});
      return s.notes.size();
    }
    int forget(int what) {
      if (!in(what, 0, 1)) return refuse(-2);
      List<int[]> l = what == 0 ? s.traces : s.notes;
      int n = l.size();
      l.clear();
      return n;
    }
    int kinds(int f) {
      int bits = 0;
      for (int i = 0; i < 6; i++) {
        Plain kind = KINDS[i];
        if (s.notes.stream().filter(n -> n[0] == f).allMatch(n -> kind.wears(n[1], n[2]) == n[3])) bits += 1 << i;
      }
      return bits;
    }
    int is(int f) { return in(f, 0, 9) ? kinds(f) : refuse(-2); }
    int look(int f) {
      if (!in(f, 0, 9)) return refuse(-2);
      int bits = kinds(f), best = -1, fewest = 99;
      if (bits == 0) return -1;
      for (int name = 0; name < 400; name++) {
        if (name % 100 > 13) continue;
        int[] groups = new int[100];
        for (int i = 0; i < 6; i++) if ((bits & 1 << i) != 0) groups[KINDS[i].wears(name / 100, name % 100)]++;
        int max = Arrays.stream(groups).max().getAsInt();
        if (max < fewest) { fewest = max; best = name; }
      }
      return best;
    }
    int two(int a, int b) {
      if (!isBill(a) || !isBill(b) || a == b) return refuse(-2);
      if (paid(a) || paid(b)) return refuse(-3);
      int wa = s.bills.get(a)[1], wb = s.bills.get(b)[1];
      String la = self(s.bills.get(a)[0]), lb = self(s.bills.get(b)[0]);
      int aAlone = s.behind(List.of(la)) != null ? 1 : 0, bAlone = s.behind(List.of(lb)) != null ? 1 : 0;
      int both = s.behind(List.of(la, lb)) != null ? 1 : 0;
      int[] hasA = {wa / 2, wa * aAlone, wa / 2, wa * both}, hasB = {wb / 2, wb / 2, wb * bAlone, wb * both};
      int bits = 0;
      if (hasA[1] <= hasA[0] && hasB[2] <= hasB[0]) bits += 1;
      if (hasA[0] <= hasA[1] && hasB[3] <= hasB[1]) bits += 2;
      if (hasA[3] <= hasA[2] && hasB[0] <= hasB[2]) bits += 4;
      if (hasA[2] <= hasA[3] && hasB[1] <= hasB[3]) bits += 8;
      return bits;
    }
    int odds(int v, int x, int c) {
      if (!num(v, x) || !in(c, 0, 10)) return refuse(-2);
      String l = State.line(v, x);
      BigInteger sum = chance(l, 0, s.worn.clone(), c), all = BigInteger.TEN.pow(l.length());
      BigInteger g = sum.gcd(all);
      above = sum.divide(g).longValueExact();
      below = all.divide(g).longValueExact();
      return 1;
    }
    BigInteger chance(String l, int k, int[] worn, int c) {
      if (k == l.length()) return l.chars().allMatch(f -> worn[f - '0'] <= s.strength[f - '0']) ? BigInteger.ONE : BigInteger.ZERO;
      int f = l.charAt(k) - '0';
      BigInteger free = chance(l, k + 1, worn, c).multiply(BigInteger.valueOf(c));
      int[] more = worn.clone();
      more[f] += s.wear(f, k);
      return free.add(chance(l, k + 1, more, c).multiply(BigInteger.valueOf(10 - c)));
    }
    int years(int seed, int n) {
      if (!in(seed, 0, 999999) || !in(n, 0, 60)) return refuse(-2);
      BigInteger x = BigInteger.valueOf(seed);
      State t = s.copy();
      int written = 0;
      for (int i = 0; i < n; i++) {
        x = x.multiply(BigInteger.valueOf(1103515245)).add(BigInteger.valueOf(12345)).mod(BigInteger.TWO.pow(31));
        State u = t.behind(List.of(self(x.shiftRight(16).intValueExact() % 100)));
        if (u != null) { t = u; written++; }
        t.night();
      }
      return written;
    }
    long part(int what) { return what == 0 ? above : what == 1 ? below : refuse(-2); }
    int image(int i) {
      if (!in(i, 0, 1)) return refuse(-2);
      images[i] = s.copy();
      return 1;
    }
    int from(int i) {
      if (!in(i, 0, 1)) return refuse(-2);
      if (images[i] == null) return refuse(-3);
      s = images[i].copy();
      return 1;
    }
    int status(int what) {
      if (in(what, 0, 2)) return status[what];
      refuse(-2);
      return -1;
    }
    int[] counts9() {
      return new int[] {s.bills.size(), s.day, s.earned, s.paid, Arrays.stream(s.worn).sum(), s.traces.size(), s.notes.size(), s.past.size(), text.length()};
    }
    int count(int what) { return in(what, 0, 8) ? counts9()[what] : refuse(-2); }
    long digest() {
      List<Long> all = new ArrayList<>();
      for (int c : counts9()) all.add((long) c);
      for (int f = 0; f < 10; f++) for (int n : new int[] {s.kind[f], s.strength[f], s.worn[f]}) all.add((long) n);
      for (List<int[]> rows : List.of(s.bills, s.traces, s.notes)) for (int[] row : rows) for (int n : row) all.add((long) n);
      all.add(above);
      all.add(below);
      long h = 1493;
      for (long n : all) h = 31 * h + n;
      return h;
    }
  }

  private static int wrong = 0;
  private static long looked = 0;
  private final Random r;
  private final FigureLeave x = new FigureLeave();
  private final Reference y = new Reference();
  private final StringBuilder told = new StringBuilder();
  private final int strongest;

  private ReferenceTest(long seed) {
    r = new Random(seed);
    strongest = new int[] {3, 6, 12, 25, 60}[r.nextInt(5)];
  }

  private int pick(int low, int high) {
    int way = r.nextInt(60);
    if (way == 0) return low - 1;
    if (way == 1) return high + 1;
    if (way == 2) return new int[] {Integer.MIN_VALUE, Integer.MAX_VALUE, -2, 1000}[r.nextInt(4)];
    return low + r.nextInt(high - low + 1);
  }

  private void same(String call, long got, long want) {
    looked++;
    told.append(call).append(' ').append(want).append('\n');
    if (got != want && wrong++ < 5) System.out.println("run:\n" + told + "answered " + got + ", the reference " + want);
  }

  private int v() { return r.nextInt(3) == 0 ? pick(0, 99) : new int[] {11, 77, 7, 1, 10, 0, 88, 18, 99}[r.nextInt(9)]; }

  private String words() {
    StringBuilder t = new StringBuilder(r.nextInt(20) == 0 ? "" : "house;");
    for (int n = r.nextInt(13); n > 0; n--) {
      switch (r.nextInt(4)) {
        case 0 -> t.append("figure").append(gap()).append(pick(0, 9)).append(' ').append(pick(0, 5)).append(' ').append(pick(1, strongest));
        case 1 -> t.append("bill").append(gap()).append(pick(0, 99)).append(' ').append(pick(0, 99));
        case 2 -> t.append("write").append(gap()).append(v()).append(' ').append(v());
        default -> t.append("night").append(gap()).append(pick(1, 60));
      }
      t.append(gap()).append(';').append(gap());
    }
    if (r.nextInt(3) == 0 && t.length() > 0) t.deleteCharAt(r.nextInt(t.length()));
    if (r.nextInt(4) == 0) t.insert(r.nextInt(t.length() + 1), "; 0a9zH\t:`{/house bill"
        .charAt(r.nextInt(22)));
    if (r.nextInt(4) == 0) t.setLength(r.nextInt(t.length() + 1));
    return t.toString();
  }

  private String gap() { return "   ".substring(r.nextInt(4)); }

  private void readWords() {
    String t = words();
    same("clear", x.clear(), y.clear());
    for (int i = 0; i < t.length(); i++) same("type " + (int) t.charAt(i), x.type(t.charAt(i)), y.type(t.charAt(i)));
    same("read", x.read(), y.read());
  }

  private void ask() {
    int a, b, c, d;
    switch (r.nextInt(40)) {
      case 0 -> { if (r.nextInt(10) == 0) same("house", x.house(), y.house()); }
      case 1, 2 -> { a = pick(0, 9); b = pick(0, 5); c = pick(1, strongest); same("figure " + a + " " + b + " " + c, x.figure(a, b, c), y.figure(a, b, c)); }
      case 3, 4 -> { a = v(); b = r.nextBoolean() ? pick(0, 99) : pick(0, 3); same("bill " + a + " " + b, x.bill(a, b), y.bill(a, b)); }
      case 5 -> { a = pick(0, 127); same("type " + a, x.type(a), y.type(a)); }
      case 6 -> { if (r.nextInt(6) == 0) readWords(); }
      case 7, 8, 9 -> { a = v(); b = v(); same("write " + a + " " + b, x.write(a, b), y.write(a, b)); }
      case 10, 11 -> { a = pick(0, 5); same("pay " + a, x.pay(a), y.pay(a)); }
      case 12 -> { a = r.nextInt(4) == 0 ? pick(1, 60) : pick(1, 3); same("night " + a, x.night(a), y.night(a)); }
      case 13 -> same("undo", x.undo(), y.undo());
      case 14 -> { a = pick(0, 9); b = pick(0, 4); same("of " + a + " " + b, x.of(a, b), y.of(a, b)); }
      case 15 -> { a = pick(0, 5); b = pick(0, 2); same("about " + a + " " + b, x.about(a, b), y.about(a, b)); }
      case 16 -> { a = pick(0, 9); b = pick(0, 3); same("wears " + a + " " + b, x.wears(a, b), y.wears(a, b)); }
      case 17 -> { a = v(); b = v(); same("cost " + a + " " + b, x.cost(a, b), y.cost(a, b)); }
      case 18 -> { a = v(); b = v(); same("can " + a + " " + b, x.can(a, b), y.can(a, b)); }
      case 19 -> { a = v(); same("best " + a, x.best(a), y.best(a)); }
      case 20 -> { if (r.nextInt(8) == 0) same("first", x.first(), y.first()); }
      case 21 -> same("counts", x.counts(), y.counts());
      case 22 -> { a = v(); b = v(); same("when " + a + " " + b, x.when(a, b), y.when(a, b)); }
      case 23 -> { a = pick(0, 1); same("most " + a, x.most(a), y.most(a)); }
      case 24 -> { a = pick(-1, 5); same("plan " + a, x.plan(a), y.plan(a)); }
      case 25 -> { a = pick(0, 1); same("wanted " + a, x.wanted(a), y.wanted(a)); }
      case 26 -> { a = pick(0, 9); b = r.nextBoolean() ? pick(0, 40) : 2 * pick(0, 4); same("trace " + a + " " + b, x.trace(a, b), y.trace(a, b)); }
      case 27 -> { a = r.nextInt(3) == 0 ? -1 : pick(-1, 99); if (r.nextInt(4) == 0) same("which " + a, x.which(a), y.which(a)); }
      case 28, 29 -> { a = pick(0, 9); b = pick(0, 3); c = pick(0, 99); d = r.nextInt(4) == 0 ? pick(0, 20) : KINDS[r.nextInt(6)].wears(b & 3, c & 127);
          same("note " + a + " " + b + " " + c + " " + d, x.note(a, b, c, d), y.note(a, b, c, d)); }
      case 30 -> { a = pick(0, 1); if (r.nextInt(3) == 0) same("forget " + a, x.forget(a), y.forget(a)); }
      case 31 -> { a = pick(0, 9); same("is " + a, x.is(a), y.is(a)); }
      case 32 -> { a = pick(0, 9); same("look " + a, x.look(a), y.look(a)); }
      case 33 -> { a = pick(0, 5); b = pick(0, 5); same("two " + a + " " + b, x.two(a, b), y.two(a, b)); }
      case 34 -> { a = v(); b = v(); c = pick(0, 10); same("odds " + a + " " + b + " " + c, x.odds(a, b, c), y.odds(a, b, c)); }
      case 35 -> { a = pick(0, 999999); b = pick(0, 60); same("years " + a + " " + b, x.years(a, b), y.years(a, b)); }
      case 36 -> { a = pick(0, 1); same("part " + a, x.part(a), y.part(a)); }
      case 37 -> { a = pick(0, 1); same("image " + a, x.image(a), y.image(a)); }
      case 38 -> { a = pick(0, 1); same("from " + a, x.from(a), y.from(a)); }
      default -> { a = pick(0, 8); same("count " + a, x.count(a), y.count(a)); }
    }
    a = pick(0, 2);
    same("status " + a, x.status(a), y.status(a));
    same("digest", x.digest(), y.digest());
  }

  public static void main(String[] args) {
    int runs = args.length > 0 ? Integer.parseInt(args[0]) : 600;
    for (int run = 0; run < runs; run++) {
      ReferenceTest t = new ReferenceTest(run);
      if (run % 6 == 5) {
        for (int i = 0; i < 167; i++) t.same("night 60", t.x.night(60), t.y.night(60));
      }
      for (int i = 0; i < 170; i++) t.ask();
    }
    System.out.println(looked + " answers beside the reference, " + wrong + " unlike");
    if (wrong != 0) System.exit(1);
  }
}
