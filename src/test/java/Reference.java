import java.math.BigInteger;
import java.util.ArrayList;
import java.util.List;

/**
 * The document once more, written as plainly as it reads: whole fractions,
 * each dot looked at by itself, a deep copy ahead of each run. It shares
 * nothing with the class under test, which is compared with it.
 */
final class Reference {
  static final int NONE = -1;

  static final class Fault extends RuntimeException {
    final int code;

    Fault(int code) {
      super(null, null, false, false);
      this.code = code;
    }
  }

  static final class Tok {
    final int kind;
    final int number;

    Tok(int kind, int number) {
      this.kind = kind;
      this.number = number;
    }
  }

  static final class Item {
    final int sort;
    final int value;
    final List<Tok> toks;

    Item(int sort, int value, List<Tok> toks) {
      this.sort = sort;
      this.value = value;
      this.toks = toks;
    }

    int told() {
      return sort == 2 ? toks.size() : value;
    }
  }

  static final class Fraction {
    final BigInteger top;
    final BigInteger bottom;

    Fraction(BigInteger top, BigInteger bottom) {
      BigInteger g = top.gcd(bottom);
      if (bottom.signum() < 0) {
        g = g.negate();
      }
      this.top = top.divide(g);
      this.bottom = bottom.divide(g);
    }

    static Fraction of(long n) {
      return new Fraction(BigInteger.valueOf(n), BigInteger.ONE);
    }

    static Fraction of(long n, long d) {
      return new Fraction(BigInteger.valueOf(n), BigInteger.valueOf(d));
    }

    Fraction plus(Fraction o) {
      return new Fraction(top.multiply(o.bottom).add(o.top.multiply(bottom)), bottom.multiply(o.bottom));
    }

    Fraction times(Fraction o) {
      return new Fraction(top.multiply(o.top), bottom.multiply(o.bottom));
    }

    int compare(Fraction o) {
      return top.multiply(o.bottom).compareTo(o.top.multiply(bottom));
    }

    BigInteger floor() {
      BigInteger[] both = top.divideAndRemainder(bottom);
      return both[1].signum() < 0 ? both[0].subtract(BigInteger.ONE) : both[0];
    }

    Fraction bounded() {
      BigInteger most = BigInteger.valueOf(1000000);
      if (top.abs().compareTo(most) > 0 || bottom.compareTo(most) > 0) {
        throw new Fault(3);
      }
      return this;
    }
  }

  static final class Ring {
    List<int[]> points = new ArrayList<>();
    boolean closed;

    Ring copy() {
      Ring r = new Ring();
      for (int[] p : points) {
        r.points.add(p.clone());
      }
      r.closed = closed;
      return r;
    }

    static Ring of(int... xy) {
      Ring r = new Ring();
      for (int k = 0; k < xy.length; k += 2) {
        r.points.add(new int[] {xy[k], xy[k + 1]});
      }
      return r;
    }
  }

  static List<Ring> copy(List<Ring> path) {
    List<Ring> c = new ArrayList<>();
    for (Ring r : path) {
      c.add(r.copy());
    }
    return c;
  }

  static int pointsOf(List<Ring> path) {
    int n = 0;
    for (Ring r : path) {
      n += r.points.size();
    }
    return n;
  }

  static boolean in(List<Ring> rings, boolean turns, int x, int y) {
    int passes = 0;
    int sum = 0;
    long mx = 16L * x + 8;
    long my = 16L * y + 8;
    for (Ring r : rings) {
      int n = r.points.size();
      for (int k = 0; k < n; k++) {
        int[] p = r.points.get(k);
        int[] q = r.points.get((k + 1) % n);
        if (p[1] <= my != q[1] <= my) {
          Fraction at = Fraction.of(p[0]).plus(Fraction.of((my - p[1]) * ((long) q[0] - p[0]), (long) q[1] - p[1]));
          if (at.compare(Fraction.of(mx)) <= 0) {
            passes++;
            sum += p[1] < q[1] ? 1 : -1;
          }
        }
      }
    }
    return turns ? sum != 0 : passes % 2 == 1;
  }

  static boolean[][] fill(List<Ring> rings, boolean turns) {
    boolean[][] dots = new boolean[32][32];
    int left = Integer.MAX_VALUE;
    int low = Integer.MAX_VALUE;
    int high = Integer.MIN_VALUE;
    for (Ring r : rings) {
      for (int[] p : r.points) {
        left = Math.min(left, p[0]);
        low = Math.min(low, p[1]);
        high = Math.max(high, p[1]);
      }
    }
    for (int y = 0; y < 32; y++) {
      // No edge passes a middle above or below all points, or to the left of all.
      if (16 * y + 8 < low || 16 * y + 8 > high) {
        continue;
      }
      for (int x = 0; x < 32; x++) {
        dots[x][y] = 16 * x + 8 >= left && in(rings, turns, x, y);
      }
    }
    return dots;
  }

  static int sum(boolean[][] dots) {
    int n = 0;
    for (boolean[] column : dots) {
      for (boolean b : column) {
        n += b ? 1 : 0;
      }
    }
    return n;
  }

  static final class State {
    Fraction[] m = {Fraction.of(1), Fraction.of(0), Fraction.of(0), Fraction.of(1), Fraction.of(0), Fraction.of(0)};
    List<Ring> path = new ArrayList<>();
    int[] point;
    boolean[][] clip = all();
    int[] amounts = {0, 0, 0, 16};
    int pen = 1;
    int cap;
    int join;
    int size = 1;

    State copy() {
      State s = new State();
      s.m = m.clone();
      s.path = Reference.copy(path);
      s.point = point == null ? null : point.clone();
      s.clip = new boolean[32][];
      for (int k = 0; k < 32; k++) {
        s.clip[k] = clip[k].clone();
      }
      s.amounts = amounts.clone();
      s.pen = pen;
      s.cap = cap;
      s.join = join;
      s.size = size;
      return s;
    }
  }

  static boolean[][] all() {
    boolean[][] dots = new boolean[32][32];
    for (boolean[] column : dots) {
      java.util.Arrays.fill(column, true);
    }
    return dots;
  }

  static final class Figure {
    final boolean[][] dots;
    final int sets;
    final int points;
    final int[] amounts;

    Figure(boolean[][] dots, int sets, int points, int[] amounts) {
      this.dots = dots;
      this.sets = sets;
      this.points = points;
      this.amounts = amounts;
    }
  }

  static final int[][] SCREEN = {{0, 8, 2, 10}, {12, 4, 14, 6}, {3, 11, 1, 9}, {15, 7, 13, 5}};

  static void paint(boolean[][][] plates, Figure f, int from, int to) {
    for (int x = 0; x < 32; x++) {
      for (int y = from; y < to && y < 32; y++) {
        if (f.dots[x][y]) {
          for (int p = 0; p < 4; p++) {
            plates[p][x][y] = f.amounts[p] > SCREEN[(y + p) % 4][(x + 2 * p) % 4];
          }
        }
      }
    }
  }

  static final class World {
    List<Item> pile = new ArrayList<>();
    Item[] names = new Item[10];
    State now = new State();
    List<State> kept = new ArrayList<>();
    List<List<Ring>> forms = new ArrayList<>();
    boolean[][][] plates = new boolean[4][32][32];
    boolean[][][] lastPage;
    List<Figure> list = new ArrayList<>();
    int printed;
    int[] done = new int[53];
    int[] cost = new int[3];

    World() {
      for (int k = 0; k < 5; k++) {
        forms.add(null);
      }
    }

    World copy() {
      World w = new World();
      w.pile = new ArrayList<>(pile);
      w.names = names.clone();
      w.now = now.copy();
      for (State s : kept) {
        w.kept.add(s.copy());
      }
      for (int k = 0; k < 5; k++) {
        w.forms.set(k, forms.get(k) == null ? null : Reference.copy(forms.get(k)));
      }
      for (int p = 0; p < 4; p++) {
        for (int x = 0; x < 32; x++) {
          w.plates[p][x] = plates[p][x].clone();
        }
      }
      w.lastPage = lastPage;
      w.list = new ArrayList<>(list);
      w.printed = printed;
      w.done = done.clone();
      w.cost = cost.clone();
      return w;
    }
  }

  static final class Row {
    final List<Tok> toks;
    int next;
    int at;
    int loop;
    int number;
    int step;
    int limit;

    Row(List<Tok> toks) {
      this.toks = toks;
    }
  }

  List<Tok> program = new ArrayList<>();
  World w = new World();
  int refused;
  int[] fault = {0, NONE, NONE};
  private List<Row> rows;
  private int spent;
  private int place;
  private int ownPlace;

  static boolean isToken(int kind, int number) {
    if (kind == 0) {
      return -9999 <= number && number <= 9999;
    }
    if (kind == 1) {
      return 0 <= number && number <= 52;
    }
    if (kind == 2 || kind == 3) {
      return 0 <= number && number <= 9;
    }
    return (kind == 4 || kind == 5) && number == 0;
  }

  int token(int kind, int number) {
    if (!isToken(kind, number)) {
      throw new IllegalArgumentException();
    }
    if (program.size() == 400) {
      throw new IllegalStateException();
    }
    program.add(new Tok(kind, number));
    return program.size();
  }

  int three(int a, int b, int c, int d, int e, int f) {
    if (!isToken(a, b) || !isToken(c, d) || !isToken(e, f)) {
      throw new IllegalArgumentException();
    }
    if (program.size() > 397) {
      throw new IllegalStateException();
    }
    token(a, b);
    token(c, d);
    return token(e, f);
  }

  int drop() {
    if (program.isEmpty()) {
      throw new IllegalStateException();
    }
    return program.remove(program.size() - 1).kind;
  }

  int wipe() {
    int n = program.size();
    program.clear();
    return n;
  }

  int fresh() {
    int n = w.printed;
    w = new World();
    fault = new int[] {0, NONE, NONE};
    return n;
  }

  int knock() {
    return ++refused;
  }

  int run() {
    World before = w.copy();
    int tokens = 0;
    spent = 0;
    place = NONE;
    ownPlace = NONE;
    rows = new ArrayList<>();
    rows.add(new Row(new ArrayList<>(program)));
    try {
      while (seek()) {
        Row top = rows.get(rows.size() - 1);
        top.at = top.next++;
        place = rows.get(0).at;
        ownPlace = top.at;
        spent++;
        tokens++;
        work(top, top.toks.get(top.at));
        if (spent > 5000) {
          throw new Fault(11);
        }
      }
      w.cost[0] += spent;
      w.cost[1] = spent;
      w.cost[2] += tokens;
      program.clear();
      fault = new int[] {0, NONE, NONE};
    } catch (Fault f) {
      w = before;
      fault = new int[] {f.code, place, ownPlace};
    }
    return fault[0];
  }

  private boolean seek() {
    while (!rows.isEmpty()) {
      Row top = rows.get(rows.size() - 1);
      if (top.next < top.toks.size()) {
        return true;
      }
      if (top.loop == 0) {
        rows.remove(rows.size() - 1);
        continue;
      }
      long next = (long) top.number + top.step;
      if (top.step > 0 ? next > top.limit : next < top.limit) {
        rows.remove(rows.size() - 1);
        continue;
      }
      top.number = (int) next;
      top.next = 0;
      place = rows.get(0).at;
      ownPlace = rows.get(rows.size() - 2).at;
      spent++;
      if (top.loop == 2) {
        put(top.number);
      }
    }
    return false;
  }

  private void put(Item item) {
    if (w.pile.size() == 40) {
      throw new Fault(8);
    }
    w.pile.add(item);
  }

  private void put(long number) {
    if (number > 99999 || number < -99999) {
      throw new Fault(3);
    }
    put(new Item(0, (int) number, null));
  }

  private Item any() {
    if (w.pile.isEmpty()) {
      throw new Fault(1);
    }
    return w.pile.remove(w.pile.size() - 1);
  }

  private Item take(int sort) {
    Item item = any();
    if (item.sort != sort) {
      throw new Fault(2);
    }
    return item;
  }

  private int number() {
    return take(0).value;
  }

  private int[] numbers(int many) {
    int[] n = new int[many];
    for (int k = many - 1; k >= 0; k--) {
      n[k] = number();
    }
    return n;
  }

  private void enter(List<Tok> toks) {
    if (rows.size() == 12) {
      throw new Fault(7);
    }
    rows.add(new Row(toks));
  }

  private void work(Row row, Tok t) {
    if (t.kind == 0) {
      put(new Item(0, t.number, null));
    } else if (t.kind == 1) {
      w.done[t.number]++;
      order(t.number);
    } else if (t.kind == 2) {
      put(new Item(1, t.number, null));
    } else if (t.kind == 3) {
      Item it = w.names[t.number];
      if (it == null) {
        throw new Fault(5);
      }
      if (it.sort == 2) {
        enter(it.toks);
      } else {
        put(it);
      }
    } else if (t.kind == 4) {
      int open = 1;
      int k = row.next;
      while (k < row.toks.size()) {
        int kind = row.toks.get(k).kind;
        if (kind == 4) {
          open++;
        }
        if (kind == 5) {
          open--;
        }
        if (open == 0) {
          break;
        }
        k++;
      }
      if (k == row.toks.size()) {
        throw new Fault(6);
      }
      put(new Item(2, 0, new ArrayList<>(row.toks.subList(row.next, k))));
      row.next = k + 1;
    } else {
      throw new Fault(6);
    }
  }

  private void order(int o) {
    if (o <= 8) {
      arithmetic(o);
    } else if (o <= 20) {
      flow(o);
    } else if (o <= 26) {
      matrixOrder(o);
    } else if (o <= 34) {
      pathOrder(o);
    } else if (o <= 40) {
      fillOrder(o);
    } else {
      rest(o);
    }
  }

  private void arithmetic(int o) {
    if (o == 5) {
      put(-number());
    } else if (o == 8) {
      put(number() == 0 ? 1 : 0);
    } else {
      long b = number();
      long a = number();
      if ((o == 3 || o == 4) && b == 0) {
        throw new Fault(4);
      }
      switch (o) {
        case 0: put(a + b); break;
        case 1: put(a - b); break;
        case 2: put(a * b); break;
        case 3: put((long) (Math.abs(a) / Math.abs(b)) * (a < 0 == b < 0 ? 1 : -1)); break;
        case 4: {
          long r = a % b;
          put(r != 0 && r < 0 != b < 0 ? r + b : r);
          break;
        }
        case 6: put(a == b ? 1 : 0); break;
        default: put(a < b ? 1 : 0); break;
      }
    }
  }

  private void flow(int o) {
    if (o == 9) {
      Item it = any();
      put(it);
      put(it);
    } else if (o == 10) {
      any();
    } else if (o == 11) {
      Item y = any();
      Item x = any();
      put(y);
      put(x);
    } else if (o == 12) {
      int n = number();
      if (n < 0) {
        throw new Fault(3);
      }
      if (n >= w.pile.size()) {
        throw new Fault(1);
      }
      put(w.pile.get(w.pile.size() - 1 - n));
    } else if (o == 13) {
      put(w.pile.size());
    } else if (o == 14) {
      Item it = any();
      w.names[take(1).value] = it;
    } else if (o == 15) {
      enter(take(2).toks);
    } else if (o == 16) {
      Item p = take(2);
      if (number() != 0) {
        enter(p.toks);
      }
    } else if (o == 17) {
      Item q = take(2);
      Item p = take(2);
      enter(number() != 0 ? p.toks : q.toks);
    } else if (o == 18) {
      Item p = take(2);
      int n = number();
      if (n < 0 || n > 99) {
        throw new Fault(3);
      }
      if (n > 0) {
        enter(p.toks);
        loop(1, 1, 1, n);
      }
    } else if (o == 19) {
      Item p = take(2);
      int to = number();
      int step = number();
      int from = number();
      if (step == 0) {
        throw new Fault(3);
      }
      if (step > 0 ? from <= to : from >= to) {
        enter(p.toks);
        loop(2, from, step, to);
        put(from);
      }
    } else {
      int k = rows.size() - 1;
      while (k >= 0 && rows.get(k).loop == 0) {
        k--;
      }
      if (k < 0) {
        throw new Fault(10);
      }
      while (rows.size() > k) {
        rows.remove(rows.size() - 1);
      }
    }
  }

  private void loop(int kind, int from, int step, int limit) {
    Row row = rows.get(rows.size() - 1);
    row.loop = kind;
    row.number = from;
    row.step = step;
    row.limit = limit;
    spent++;
  }

  private void matrixOrder(int o) {
    Fraction[] m = w.now.m;
    if (o == 21) {
      if (w.kept.size() == 8) {
        throw new Fault(7);
      }
      w.kept.add(w.now.copy());
    } else if (o == 22) {
      if (w.kept.isEmpty()) {
        throw new Fault(1);
      }
      w.now = w.kept.remove(w.kept.size() - 1);
    } else if (o == 23) {
      int[] n = numbers(2);
      for (int k = 0; k < 2; k++) {
        m[4 + k] = m[4 + k].plus(m[k].times(Fraction.of(n[0]))).plus(m[k + 2].times(Fraction.of(n[1]))).bounded();
      }
    } else if (o == 24) {
      int[] n = numbers(4);
      if (n[1] == 0 || n[3] == 0) {
        throw new Fault(4);
      }
      if (n[0] == 0 || n[2] == 0) {
        throw new Fault(3);
      }
      for (int k = 0; k < 4; k++) {
        m[k] = m[k].times(k < 2 ? Fraction.of(n[0], n[1]) : Fraction.of(n[2], n[3])).bounded();
      }
    } else if (o == 25) {
      int times = ((number() % 4) + 4) % 4;
      for (int k = 0; k < times; k++) {
        Fraction minus = Fraction.of(-1);
        Fraction[] t = {m[2], m[3], m[0].times(minus), m[1].times(minus)};
        System.arraycopy(t, 0, m, 0, 4);
      }
    } else {
      int[] n = numbers(2);
      if (n[1] == 0) {
        throw new Fault(4);
      }
      for (int k = 0; k < 2; k++) {
        m[2 + k] = m[2 + k].plus(m[k].times(Fraction.of(n[0], n[1]))).bounded();
      }
    }
  }

  private int[] reckon(long x, long y, boolean spot) {
    int[] r = new int[2];
    for (int k = 0; k < 2; k++) {
      Fraction[] m = w.now.m;
      Fraction v = m[k].times(Fraction.of(x)).plus(m[k + 2].times(Fraction.of(y)));
      if (spot) {
        v = v.plus(m[k + 4]);
      }
      BigInteger n = v.times(Fraction.of(16)).plus(Fraction.of(1, 2)).floor();
      if (!spot) {
        n = n.add(BigInteger.valueOf(w.now.point[k]));
      }
      if (n.abs().compareTo(BigInteger.valueOf(32000)) > 0) {
        throw new Fault(3);
      }
      r[k] = n.intValueExact();
    }
    return r;
  }

  private void addPoints(List<int[]> points, boolean anew) {
    State s = w.now;
    Ring last = s.path.isEmpty() ? null : s.path.get(s.path.size() - 1);
    List<int[]> more = new ArrayList<>();
    if (!anew && last.closed) {
      anew = true;
      more.add(s.point);
    }
    more.addAll(points);
    if (pointsOf(s.path) + more.size() > 120) {
      throw new Fault(8);
    }
    if (anew) {
      last = new Ring();
      s.path.add(last);
    }
    for (int[] p : more) {
      last.points.add(p.clone());
    }
    s.point = more.get(more.size() - 1).clone();
  }

  private void pathOrder(int o) {
    State s = w.now;
    int[] counts = {0, 2, 2, 2, 2, 6, 0, 4};
    int[] n = numbers(counts[o - 27]);
    if (o >= 29 && o <= 33 && s.point == null) {
      throw new Fault(9);
    }
    if (o == 27) {
      s.path.clear();
      s.point = null;
    } else if (o == 28 || o == 30) {
      addPoints(List.of(reckon(n[0], n[1], o == 28)), true);
    } else if (o == 29 || o == 31) {
      addPoints(List.of(reckon(n[0], n[1], o == 29)), false);
    } else if (o == 32) {
      List<int[]> made = new ArrayList<>();
      int[] p1 = reckon(n[0], n[1], true);
      int[] p2 = reckon(n[2], n[3], true);
      curve(s.point, p1, p2, reckon(n[4], n[5], true), 0, made);
      addPoints(made, false);
    } else if (o == 33) {
      Ring last = s.path.get(s.path.size() - 1);
      last.closed = true;
      s.point = last.points.get(0).clone();
    } else {
      int[] p = reckon(n[0], n[1], true);
      int[] q = reckon(n[0] + n[2], n[1], true);
      int[] r = reckon(n[0] + n[2], n[1] + n[3], true);
      int[] t = reckon(n[0], n[1] + n[3], true);
      addPoints(List.of(p, q, r, t), true);
      s.path.get(s.path.size() - 1).closed = true;
      s.point = p.clone();
    }
  }

  private static int[] mid(int[] p, int[] q) {
    return new int[] {Math.floorDiv(p[0] + q[0], 2), Math.floorDiv(p[1] + q[1], 2)};
  }

  private static void curve(int[] p, int[] q, int[] r, int[] s, int halved, List<int[]> made) {
    boolean flat = true;
    for (int k = 0; k < 2; k++) {
      flat &= Math.abs(p[k] + r[k] - 2 * q[k]) <= 8 && Math.abs(q[k] + s[k] - 2 * r[k]) <= 8;
    }
    if (flat || halved == 4) {
      made.add(s);
      return;
    }
    int[] a = mid(p, q);
    int[] b = mid(q, r);
    int[] c = mid(r, s);
    int[] d = mid(a, b);
    int[] e = mid(b, c);
    int[] m = mid(d, e);
    curve(p, a, d, m, halved + 1, made);
    curve(m, e, c, s, halved + 1, made);
  }

  private void fillOrder(int o) {
    State s = w.now;
    if (o == 40) {
      s.clip = all();
      return;
    }
    if (o == 37) {
      paintSets(strokesOf(s.path));
    } else {
      boolean[][] dots = fill(s.path, o == 35 || o == 38);
      if (o <= 36) {
        paintDots(dots, 1, pointsOf(s.path));
      } else {
        for (int x = 0; x < 32; x++) {
          for (int y = 0; y < 32; y++) {
            s.clip[x][y] &= dots[x][y];
          }
        }
      }
    }
    s.path.clear();
    s.point = null;
  }

  private List<Ring> strokesOf(List<Ring> path) {
    List<Ring> sets = new ArrayList<>();
    int h = 8 * w.now.pen;
    for (Ring r : path) {
      int n = r.points.size();
      for (int k = 0; k + 1 < n; k++) {
        sets.add(bar(r.points.get(k), r.points.get(k + 1), h));
      }
      if (r.closed) {
        sets.add(bar(r.points.get(n - 1), r.points.get(0), h));
      }
      if (w.now.join == 1) {
        for (int k = 0; k < n; k++) {
          if (r.closed || k > 0 && k < n - 1) {
            sets.add(square(r.points.get(k), h));
          }
        }
      }
      if (w.now.cap == 1 && !r.closed) {
        sets.add(square(r.points.get(0), h));
        sets.add(square(r.points.get(n - 1), h));
      }
    }
    return sets;
  }

  private static Ring bar(int[] p, int[] q, int h) {
    if (Math.abs(p[0] - q[0]) >= Math.abs(p[1] - q[1])) {
      return Ring.of(p[0], p[1] - h, q[0], q[1] - h, q[0], q[1] + h, p[0], p[1] + h);
    }
    return Ring.of(p[0] - h, p[1], p[0] + h, p[1], q[0] + h, q[1], q[0] - h, q[1]);
  }

  private static Ring square(int[] p, int h) {
    return Ring.of(p[0] - h, p[1] - h, p[0] + h, p[1] - h, p[0] + h, p[1] + h, p[0] - h, p[1] + h);
  }

  private void paintSets(List<Ring> sets) {
    boolean[][] dots = new boolean[32][32];
    for (Ring set : sets) {
      boolean[][] more = fill(List.of(set), true);
      for (int x = 0; x < 32; x++) {
        for (int y = 0; y < 32; y++) {
          dots[x][y] |= more[x][y];
        }
      }
    }
    paintDots(dots, sets.size(), pointsOf(sets));
  }

  private void paintDots(boolean[][] dots, int sets, int points) {
    if (w.list.size() == 60) {
      throw new Fault(8);
    }
    for (int x = 0; x < 32; x++) {
      for (int y = 0; y < 32; y++) {
        dots[x][y] &= w.now.clip[x][y];
      }
    }
    Figure f = new Figure(dots, sets, points, w.now.amounts.clone());
    w.list.add(f);
    paint(w.plates, f, 0, 32);
    spent += sum(dots);
  }

  private int bounded(int low, int high) {
    int n = number();
    if (n < low || n > high) {
      throw new Fault(3);
    }
    return n;
  }

  private void rest(int o) {
    State s = w.now;
    if (o == 41) {
      int[] n = numbers(4);
      for (int v : n) {
        if (v < 0 || v > 16) {
          throw new Fault(3);
        }
      }
      s.amounts = n;
    } else if (o == 42) {
      s.amounts = new int[] {0, 0, 0, bounded(0, 16)};
    } else if (o == 43) {
      s.pen = bounded(1, 8);
    } else if (o == 44) {
      s.cap = bounded(0, 1);
    } else if (o == 45) {
      s.join = bounded(0, 1);
    } else if (o == 46) {
      s.size = bounded(1, 8);
    } else if (o == 47) {
      int n = bounded(0, 99999);
      needPoint();
      digits(n, 0);
    } else if (o == 48) {
      int n = number();
      int width = number();
      if (n < 0) {
        throw new Fault(3);
      }
      needPoint();
      for (char c : String.valueOf(n).toCharArray()) {
        width -= (c == '1' ? 3 : 5) * s.size;
      }
      if (width < 0) {
        throw new Fault(3);
      }
      digits(n, width);
    } else if (o == 49) {
      image(bounded(0, 4095));
    } else if (o == 50) {
      w.forms.set(bounded(0, 4), copy(s.path));
    } else if (o == 51) {
      use();
    } else {
      w.printed++;
      w.lastPage = w.plates;
      w.plates = new boolean[4][32][32];
      w.list.clear();
    }
  }

  private void needPoint() {
    if (w.now.point == null) {
      throw new Fault(9);
    }
  }

  static final int[][] STROKES = {
    {0, 0, 4, 0}, {4, 0, 4, 3}, {4, 3, 4, 6}, {0, 6, 4, 6}, {0, 3, 0, 6}, {0, 0, 0, 3}, {0, 3, 4, 3}, {1, 0, 1, 6}
  };
  static final int[][] DIGITS = {
    {0, 1, 2, 3, 4, 5}, {7}, {0, 1, 3, 4, 6}, {0, 1, 2, 3, 6}, {1, 2, 5, 6}, {0, 2, 3, 5, 6},
    {0, 2, 3, 4, 5, 6}, {0, 1, 2}, {0, 1, 2, 3, 4, 5, 6}, {0, 1, 2, 3, 5, 6}
  };

  private void digits(int n, int rest) {
    State s = w.now;
    String text = String.valueOf(n);
    int gaps = text.length() - 1;
    for (int k = 0; k <= gaps; k++) {
      int digit = text.charAt(k) - '0';
      List<Ring> rings = new ArrayList<>();
      for (int stroke : DIGITS[digit]) {
        int[] t = STROKES[stroke];
        int[] from = reckon(t[0] * s.size, t[1] * s.size, false);
        int[] to = reckon(t[2] * s.size, t[3] * s.size, false);
        rings.add(Ring.of(from[0], from[1], to[0], to[1]));
      }
      paintSets(strokesOf(rings));
      int width = (digit == 1 ? 3 : 5) * s.size;
      if (k < gaps) {
        width += rest / gaps + (k < rest % gaps ? 1 : 0);
      }
      s.point = reckon(width, 0, false);
    }
  }

  private void image(int n) {
    needPoint();
    List<Ring> rings = new ArrayList<>();
    for (int k = 0; k < 12; k++) {
      if ((n & (1 << k)) != 0) {
        Ring r = new Ring();
        int x = k % 4;
        int y = k / 4;
        r.points.add(reckon(x, y, false));
        r.points.add(reckon(x + 1, y, false));
        r.points.add(reckon(x + 1, y + 1, false));
        r.points.add(reckon(x, y + 1, false));
        rings.add(r);
      }
    }
    paintSets(rings);
  }

  private void use() {
    State s = w.now;
    int n = number();
    int y = number();
    int x = number();
    if (n < 0 || n > 4) {
      throw new Fault(3);
    }
    if (w.forms.get(n) == null) {
      throw new Fault(5);
    }
    List<Ring> more = copy(w.forms.get(n));
    for (Ring r : more) {
      for (int[] p : r.points) {
        p[0] += 16 * x;
        p[1] += 16 * y;
        if (Math.abs(p[0]) > 32000 || Math.abs(p[1]) > 32000) {
          throw new Fault(3);
        }
      }
    }
    if (pointsOf(s.path) + pointsOf(more) > 120) {
      throw new Fault(8);
    }
    s.path.addAll(more);
    if (!more.isEmpty()) {
      Ring last = more.get(more.size() - 1);
      s.point = last.points.get(last.closed ? 0 : last.points.size() - 1).clone();
    }
  }

  // ---- what is told

  int tokens() {
    return program.size();
  }

  int tokenAt(int place, int what) {
    check(place, program.size());
    checkWhat(what, 1);
    return what == 0 ? program.get(place).kind : program.get(place).number;
  }

  private static void check(int k, int size) {
    if (k < 0 || k >= size) {
      throw new IndexOutOfBoundsException();
    }
  }

  private static void checkWhat(int what, int most) {
    if (what < 0 || what > most) {
      throw new IllegalArgumentException();
    }
  }

  int fault(int what) {
    checkWhat(what, 2);
    return fault[what];
  }

  int items() {
    return w.pile.size();
  }

  int item(int place, int what) {
    check(place, w.pile.size());
    checkWhat(what, 1);
    Item it = w.pile.get(w.pile.size() - 1 - place);
    return what == 0 ? it.sort : it.told();
  }

  int name(int name, int what) {
    check(name, 10);
    checkWhat(what, 1);
    Item it = w.names[name];
    return it == null ? (what == 0 ? NONE : 0) : what == 0 ? it.sort : it.told();
  }

  int cost(int what) {
    checkWhat(what, 2);
    return w.cost[what];
  }

  int done(int order) {
    check(order, 53);
    return w.done[order];
  }

  int state(int what) {
    checkWhat(what, 14);
    State s = w.now;
    int[] all = {
      s.pen, s.cap, s.join, s.size, s.amounts[0], s.amounts[1], s.amounts[2], s.amounts[3],
      s.point == null ? 0 : 1, s.point == null ? 0 : s.point[0], s.point == null ? 0 : s.point[1],
      s.path.size(), pointsOf(s.path), sum(s.clip), w.kept.size()
    };
    return all[what];
  }

  int matrix(int entry, int part) {
    check(entry, 6);
    checkWhat(part, 1);
    Fraction f = w.now.m[entry];
    return (part == 0 ? f.top : f.bottom).intValueExact();
  }

  int ring(int ring, int what) {
    check(ring, w.now.path.size());
    checkWhat(what, 1);
    Ring r = w.now.path.get(ring);
    return what == 0 ? r.points.size() : r.closed ? 1 : 0;
  }

  int point(int ring, int place, int what) {
    check(ring, w.now.path.size());
    check(place, w.now.path.get(ring).points.size());
    checkWhat(what, 1);
    return w.now.path.get(ring).points.get(place)[what];
  }

  int form(int form, int what) {
    check(form, 5);
    checkWhat(what, 2);
    List<Ring> f = w.forms.get(form);
    return f == null ? 0 : what == 0 ? 1 : what == 1 ? f.size() : pointsOf(f);
  }

  boolean has(int x, int y, int rule) {
    check(x, 32);
    check(y, 32);
    checkWhat(rule, 1);
    return in(w.now.path, rule == 1, x, y);
  }

  int dots(int rule) {
    checkWhat(rule, 1);
    return sum(fill(w.now.path, rule == 1));
  }

  int moved(int dx, int dy, int rule) {
    if (Math.abs((long) dx) > 40 || Math.abs((long) dy) > 40) {
      throw new IllegalArgumentException();
    }
    checkWhat(rule, 1);
    List<Ring> path = copy(w.now.path);
    for (Ring r : path) {
      for (int[] p : r.points) {
        p[0] += 16 * dx;
        p[1] += 16 * dy;
      }
    }
    return sum(fill(path, rule == 1));
  }

  int inverse() {
    List<Ring> path = copy(w.now.path);
    path.add(Ring.of(0, 0, 512, 0, 512, 512, 0, 512));
    return sum(fill(path, false));
  }

  int halves(int ring, int from, int to, int what) {
    check(ring, w.now.path.size());
    List<int[]> p = w.now.path.get(ring).points;
    check(from, p.size());
    check(to, p.size());
    if (to <= from) {
      throw new IllegalArgumentException();
    }
    checkWhat(what, 4);
    Ring first = new Ring();
    first.points.addAll(p.subList(from, to + 1));
    Ring second = new Ring();
    second.points.addAll(p.subList(to, p.size()));
    second.points.addAll(p.subList(0, from + 1));
    int sum = 0;
    for (int x = 0; x < 32; x++) {
      for (int y = 0; y < 32; y++) {
        boolean a = in(List.of(first), false, x, y);
        boolean b = in(List.of(second), false, x, y);
        boolean c = in(List.of(w.now.path.get(ring)), false, x, y);
        boolean[] told = {c, a, b, a && b, a != b};
        sum += told[what] ? 1 : 0;
      }
    }
    return sum;
  }

  int figures() {
    return w.list.size();
  }

  int figure(int figure, int what) {
    check(figure, w.list.size());
    checkWhat(what, 6);
    Figure f = w.list.get(figure);
    int[] all = {sum(f.dots), f.sets, f.points, f.amounts[0], f.amounts[1], f.amounts[2], f.amounts[3]};
    return all[what];
  }

  int last(int x, int y) {
    check(x, 32);
    check(y, 32);
    int last = NONE;
    for (int k = 0; k < w.list.size(); k++) {
      if (w.list.get(k).dots[x][y]) {
        last = k;
      }
    }
    return last;
  }

  private static int colour(boolean[][][] plates, int x, int y) {
    int c = 0;
    for (int p = 0; p < 4; p++) {
      c += plates[p][x][y] ? 1 << p : 0;
    }
    return c;
  }

  int dot(int x, int y) {
    check(x, 32);
    check(y, 32);
    return colour(w.plates, x, y);
  }

  int row(int plate, int y) {
    check(plate, 4);
    check(y, 32);
    int bits = 0;
    for (int x = 0; x < 32; x++) {
      bits |= w.plates[plate][x][y] ? 1 << x : 0;
    }
    return bits;
  }

  int count(int plate) {
    check(plate, 4);
    return sum(w.plates[plate]);
  }

  boolean bands(int height) {
    if (height < 1 || height > 32) {
      throw new IllegalArgumentException();
    }
    boolean[][][] trial = new boolean[4][32][32];
    for (int from = 0; from < 32; from += height) {
      for (Figure f : w.list) {
        paint(trial, f, from, from + height);
      }
    }
    return java.util.Arrays.deepEquals(trial, w.plates);
  }

  List<Integer> packed(int plate) {
    check(plate, 4);
    List<Integer> all = new ArrayList<>();
    int k = 0;
    boolean on = false;
    while (k < 1024) {
      int n = 0;
      while (k < 1024 && w.plates[plate][k % 32][k / 32] == on) {
        n++;
        k++;
      }
      while (n > 99) {
        all.add(99);
        all.add(0);
        n -= 99;
      }
      all.add(n);
      on = !on;
    }
    return all;
  }

  int runs(int plate) {
    return packed(plate).size();
  }

  int runAt(int plate, int place) {
    List<Integer> all = packed(plate);
    check(place, all.size());
    return all.get(place);
  }

  int page(int what) {
    checkWhat(what, 5);
    if (what == 0) {
      return w.printed;
    }
    if (w.lastPage == null) {
      return 0;
    }
    if (what < 5) {
      return sum(w.lastPage[what - 1]);
    }
    int n = 0;
    for (int x = 0; x < 32; x++) {
      for (int y = 0; y < 32; y++) {
        n += colour(w.lastPage, x, y) != 0 ? 1 : 0;
      }
    }
    return n;
  }

  int lastDot(int x, int y) {
    check(x, 32);
    check(y, 32);
    return w.lastPage == null ? NONE : colour(w.lastPage, x, y);
  }

  /** The theorems are laws of the document: there is no state in which one of them fails. */
  boolean isSound() {
    return true;
  }

  private long d;

  private void tell(int... all) {
    for (int v : all) {
      d = d * 31 + v;
    }
  }

  long digest() {
    d = 6405;
    tell(tokens());
    for (int k = 0; k < tokens(); k++) {
      tell(tokenAt(k, 0), tokenAt(k, 1));
    }
    tell(fault(0), fault(1), fault(2), items());
    for (int k = 0; k < items(); k++) {
      tell(item(k, 0), item(k, 1));
    }
    for (int k = 0; k < 10; k++) {
      tell(name(k, 0), name(k, 1));
    }
    tell(cost(0), cost(1), cost(2));
    for (int k = 0; k < 53; k++) {
      tell(done(k));
    }
    for (int k = 0; k < 15; k++) {
      tell(state(k));
    }
    for (int k = 0; k < 6; k++) {
      tell(matrix(k, 0), matrix(k, 1));
    }
    for (int k = 0; k < w.now.path.size(); k++) {
      tell(ring(k, 0), ring(k, 1));
      for (int n = 0; n < ring(k, 0); n++) {
        tell(point(k, n, 0), point(k, n, 1));
      }
    }
    for (int k = 0; k < 5; k++) {
      tell(form(k, 0), form(k, 1), form(k, 2));
    }
    tell(dots(0), dots(1), inverse(), figures());
    for (int k = 0; k < figures(); k++) {
      for (int n = 0; n < 7; n++) {
        tell(figure(k, n));
      }
    }
    for (int p = 0; p < 4; p++) {
      for (int y = 0; y < 32; y++) {
        tell(row(p, y));
      }
      tell(count(p), runs(p));
    }
    for (int k = 0; k < 6; k++) {
      tell(page(k));
    }
    tell(isSound() ? 1 : 0);
    return d;
  }
}
