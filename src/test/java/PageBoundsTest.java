/** What DOC.md's sections 3 to 8 name as bounds, in their order: just inside, on it, and just beyond it. */
public final class PageBoundsTest {
  private static final int UNDER = 1;
  private static final int RANGE = 3;
  private static final int ZERO = 4;
  private static final int NAME = 5;
  private static final int DEEP = 7;
  private static final int FULL = 8;
  private static final int POINT = 9;
  /** Makes one of a SPOT's numbers one SIXTEENTH. */
  private static final String FINE = "1 16 1 16 scale ";
  private static final Checks t = new Checks();

  public static void main(String[] args) {
    keptStates();
    numeratorsByScale();
    zeroesOfScale();
    turns();
    numbersBySlant();
    numbersByMove();
    roundedPlaces();
    farthestSpots();
    farthestSums();
    mostPoints();
    noPoint();
    rangeAheadOfFull();
    closing();
    flatCurves();
    halvedCurves();
    middlesOnEdges();
    slopes();
    rules();
    clips();
    emptyBehindFills();
    mostFigures();
    tools();
    bars();
    squaresAtPoints();
    shownNumbers();
    setNumbers();
    farthestDigits();
    amounts();
    images();
    formNumbers();
    movedForms();
    pages();
    bandHeights();
    runsOf99();
    t.end();
  }

  private static String repeated(String text, int times) {
    return Checks.repeated(text, times);
  }

  private static String number(int n) {
    return Checks.number(n);
  }

  // ---- section 3

  /** "DEEP if there are 8", "UNDER without one". */
  private static void keptStates() {
    for (int many = 0; many <= 8; many++) {
      Plateroomprinter x = t.after(repeated("save", many));
      t.due("kept", x.state(14), many);
      t.due("and gone", Checks.run(x, repeated("restore", many)), 0);
      t.due("none", x.state(14), 0);
      t.fault(x, UNDER, "!restore");
      t.fault(x, UNDER, repeated("save restore", many) + "!restore");
    }
    t.fault(DEEP, repeated("save", 8) + "!save");
    t.fault(t.after(repeated("save", 8)), DEEP, "!save");
    t.due("eight once more", t.after(repeated("save", 8) + "restore save").state(14), 8);
    StringBuilder pens = new StringBuilder();
    for (int pen = 1; pen <= 8; pen++) {
      pens.append(pen).append(" pen save ");
    }
    Plateroomprinter x = t.after(pens + "1 pen");
    for (int pen = 8; pen >= 1; pen--) {
      t.due("run", Checks.run(x, "restore"), 0);
      t.due("the pen of the state on top", x.state(0), pen);
    }
  }

  private static void entry(String text, int entry, int numerator, int denominator) {
    Plateroomprinter x = t.after(text);
    t.due("numerator " + entry + " of " + text, x.matrix(entry, 0), numerator);
    t.due("denominator " + entry + " of " + text, x.matrix(entry, 1), denominator);
  }

  /** Scales a and b, or c and d; behind a turn b and c are those that are not 0. */
  private static String scaled(boolean first, int p, int q) {
    return first ? p + " " + q + " 1 1 " : "1 1 " + p + " " + q + " ";
  }

  /** "A numerator or denominator (without common divisors) above 1000000 or below -1000000: RANGE." */
  private static void numeratorsByScale() {
    for (int entry = 0; entry < 4; entry++) {
      boolean first = entry < 2;
      boolean turned = entry == 1 || entry == 2;
      String turn = turned ? "1 turn " : "";
      for (int sign = -1; sign <= 1; sign += 2) {
        // As it is turned, c is -1.
        int told = entry == 2 ? -sign : sign;
        entry(turn + scaled(first, sign * 999, 1) + "scale " + scaled(first, 1001, 1) + "scale", entry, told * 999999, 1);
        entry(turn + scaled(first, sign * 1000, 1) + "scale " + scaled(first, 1000, 1) + "scale", entry, told * 1000000, 1);
        t.fault(RANGE, turn + scaled(first, sign * 101, 1) + "scale " + scaled(first, 9901, 1) + "!scale");
        entry(turn + scaled(first, 1, sign * 999) + "scale " + scaled(first, 1, 1001) + "scale", entry, told, 999999);
        entry(turn + scaled(first, 1, sign * 1000) + "scale " + scaled(first, 1, 1000) + "scale", entry, told, 1000000);
        t.fault(RANGE, turn + scaled(first, 1, sign * 101) + "scale " + scaled(first, 1, 9901) + "!scale");
        // Common divisors go first.
        String most = turn + scaled(first, sign * 1000, 1) + "scale " + scaled(first, 1000, 1) + "scale ";
        entry(most + scaled(first, 9999, 9999) + "scale", entry, told * 1000000, 1);
        t.fault(RANGE, most + scaled(first, 2, 1) + "!scale");
        String least = turn + scaled(first, 1, sign * 1000) + "scale " + scaled(first, 1, 1000) + "scale ";
        entry(least + scaled(first, 9999, 9999) + "scale", entry, told, 1000000);
        t.fault(RANGE, least + scaled(first, 1, 2) + "!scale");
      }
    }
  }

  /** "ZERO if q or s is 0, RANGE if p or r is 0"; of slant "ZERO if q is 0". */
  private static void zeroesOfScale() {
    for (String text : new String[] {"1 0 1 1 ", "1 1 1 0 ", "1 0 1 0 ", "0 0 1 1 ", "1 1 0 0 ", "0 1 1 0 ", "1 0 0 1 "}) {
      t.fault(ZERO, text + "!scale");
    }
    t.fault(RANGE, "0 1 1 1 !scale");
    t.fault(RANGE, "1 1 0 1 !scale");
    t.fault(RANGE, "0 -1 0 -1 !scale");
    entry("-1 1 1 -1 scale", 0, -1, 1);
    entry("-1 1 1 -1 scale", 3, -1, 1);
    entry("1 -1 -1 1 scale", 0, -1, 1);
    t.fault(ZERO, "1 0 !slant");
    t.fault(ZERO, "0 0 !slant");
    entry("0 1 slant", 2, 0, 1);
    entry("0 -1 slant", 2, 0, 1);
    entry("1 -1 slant", 2, -1, 1);
    // Of 0 the denominator is 1.
    entry("1 7 slant -1 7 slant", 2, 0, 1);
    entry("1 7 1 1 scale 3 0 move -3 0 move", 4, 0, 1);
  }

  /** "as often as n modulo 4 tells, by mod as above". */
  private static void turns() {
    int[][] due = {{2, 0, 2, 3}, {2, 3, -2, 0}, {-2, 0, -2, -3}, {-2, -3, 2, 0}};
    int[] numbers = {-99999, -9, -8, -7, -6, -5, -4, -3, -2, -1, 0, 1, 2, 3, 4, 5, 6, 7, 8, 9, 99998, 99999};
    for (int n : numbers) {
      Plateroomprinter x = t.after("2 1 3 1 scale 1 1 slant " + number(n) + " turn");
      for (int entry = 0; entry < 4; entry++) {
        t.due("entry " + entry + " behind " + n + " turns", x.matrix(entry, 0), due[Math.floorMod(n, 4)][entry]);
        t.due("its denominator", x.matrix(entry, 1), 1);
      }
    }
  }

  /** c grows by a, and as it is turned d by b. */
  private static void numbersBySlant() {
    for (int entry = 2; entry <= 3; entry++) {
      String turn = entry == 3 ? "1 turn " : "";
      // As it is turned, c is not 0, and is not in the way.
      for (int sign = -1; sign <= 1; sign += 2) {
        String most = turn + "1000 1 1 1 scale " + sign * 1000 + " 1 slant ";
        entry(most + -sign + " 1000 slant", entry, sign * 999999, 1);
        entry(most, entry, sign * 1000000, 1);
        t.fault(RANGE, most + sign + " 1000 !slant");
        entry(turn + "1 999 1 1 scale 1 " + sign * 1001 + " slant", entry, sign, 999999);
        entry(turn + "1 1000 1 1 scale 1 " + sign * 1000 + " slant", entry, sign, 1000000);
        t.fault(RANGE, turn + "1 101 1 1 scale 1 " + sign * 9901 + " !slant");
      }
    }
  }

  private static String along(int axis, int n) {
    return axis == 0 ? number(n) + " 0 " : "0 " + number(n) + " ";
  }

  private static void numbersByMove() {
    for (int axis = 0; axis < 2; axis++) {
      int entry = 4 + axis;
      for (int sign = -1; sign <= 1; sign += 2) {
        String most = "50 [ " + repeated(along(axis, sign * 9999) + "move", 2) + "] repeat ";
        entry(most + along(axis, sign * 99) + "move", entry, sign * 999999, 1);
        entry(most + along(axis, sign * 100) + "move", entry, sign * 1000000, 1);
        t.fault(RANGE, most + along(axis, sign * 101) + "!move");
        String one = along(axis, sign) + "move ";
        boolean first = axis == 0;
        entry(scaled(first, 1, 999) + "scale " + one + scaled(first, 999, 1001) + "scale " + one, entry, sign * 2000, 999999);
        entry(scaled(first, 1, 1000) + "scale " + scaled(first, 1, 1000) + "scale " + one, entry, sign, 1000000);
        t.fault(RANGE, scaled(first, 1, 101) + "scale " + one + scaled(first, 101, 9901) + "scale "
            + along(axis, sign) + "!move");
      }
    }
  }

  /** "FLOOR(16 * (a * x + c * y + e) + 1/2)": halves go up, also below 0. */
  private static void roundedPlaces() {
    for (int n = -7; n <= 7; n++) {
      for (int axis = 0; axis < 2; axis++) {
        int[] parts = {2, 3, 5};
        for (int part : parts) {
          String scale = "1 " + 16 * part + " 1 " + 16 * part + " scale ";
          int due = Math.floorDiv(2 * n + part, 2 * part);
          t.due("spot", t.after(scale + along(axis, n) + "to").state(9 + axis), due);
          t.due("delta", t.after(scale + "0 0 to " + along(axis, n) + "by").state(9 + axis), due);
          t.due("moved", t.after(scale + along(axis, n) + "move 0 0 to").state(9 + axis), due);
        }
      }
    }
  }

  /** "Each number of a SPOT .. beyond -32000 to 32000: RANGE." */
  private static void farthestSpots() {
    for (int axis = 0; axis < 2; axis++) {
      for (int sign = -1; sign <= 1; sign += 2) {
        for (int n = 31999; n <= 32000; n++) {
          String at = along(axis, sign * n);
          t.due("to " + at, t.after(FINE + at + "to").state(9 + axis), sign * n);
          t.due("line " + at, t.after(FINE + "0 0 to " + at + "line").state(9 + axis), sign * n);
          t.due("box " + at, t.after(FINE + at + "0 0 box").state(9 + axis), sign * n);
          t.due("box to " + at, t.after(FINE + "0 0 " + at + "box").point(0, 2, axis), sign * n);
          t.due("curve to " + at, t.after(FINE + "0 0 to 0 0 0 0 " + at + "curve").state(9 + axis), sign * n);
          t.due("curve by " + at, t.after(FINE + "0 0 to 0 0 " + at + "0 0 curve").state(9 + axis), 0);
          t.due("curve by " + at, t.after(FINE + "0 0 to " + at + "0 0 0 0 curve").state(9 + axis), 0);
        }
        String far = along(axis, sign * 32001);
        t.fault(RANGE, FINE + far + "!to");
        t.fault(RANGE, FINE + "0 0 to " + far + "!line");
        t.fault(RANGE, FINE + far + "0 0 !box");
        t.fault(RANGE, FINE + "0 0 " + far + "!box");
        t.fault(RANGE, FINE + along(axis, sign * 32000) + along(axis, sign) + "!box");
        t.fault(RANGE, FINE + far + along(axis, -sign) + "!box");
        t.fault(RANGE, FINE + "0 0 to 0 0 0 0 " + far + "!curve");
        t.fault(RANGE, FINE + "0 0 to 0 0 " + far + "0 0 !curve");
        t.fault(RANGE, FINE + "0 0 to " + far + "0 0 0 0 !curve");
        t.fault(RANGE, along(axis, sign * 99999) + "!to");
      }
      // The bound is that of the number that is rounded.
      String half = "1 32 1 32 scale ";
      t.due("rounded", t.after(half + along(axis, 64000) + "to").state(9 + axis), 32000);
      t.fault(RANGE, half + along(axis, 64001) + "!to");
      t.due("rounded", t.after(half + along(axis, -64001) + "to").state(9 + axis), -32000);
      t.fault(RANGE, half + along(axis, -64002) + "!to");
    }
  }

  /** ".. and of what comes out as a DELTA is added to the POINT": the DELTA itself may be greater. */
  private static void farthestSums() {
    for (int axis = 0; axis < 2; axis++) {
      for (int sign = -1; sign <= 1; sign += 2) {
        for (String order : new String[] {"by", "lineby"}) {
          String near = FINE + along(axis, sign * 31998) + "to ";
          t.due(order, t.after(near + along(axis, sign) + order).state(9 + axis), sign * 31999);
          t.due(order, t.after(near + along(axis, 2 * sign) + order).state(9 + axis), sign * 32000);
          t.fault(RANGE, near + along(axis, 3 * sign) + "!" + order);
          String far = FINE + along(axis, -sign * 32000) + "to ";
          t.due(order, t.after(far + along(axis, sign * 64000) + order).state(9 + axis), sign * 32000);
          t.fault(RANGE, far + along(axis, sign * 64001) + "!" + order);
        }
      }
    }
  }

  // ---- section 4

  /** A RING of so many points, each a dot behind the other. */
  private static String line(int points) {
    StringBuilder s = new StringBuilder("3 3 to 4 4 line 0 keep new 0 0 to ");
    for (int rest = points - 1; rest > 0; rest -= 99) {
      s.append(Math.min(99, rest)).append(" [ 1 0 lineby ] repeat ");
    }
    return s.toString();
  }

  /** "with more than 120 points in all: FULL"; behind a CLOSED RING the POINT is one more. */
  private static void mostPoints() {
    needs("1 1", "to", 1, 1);
    needs("1 1", "line", 1, 2);
    needs("1 1", "by", 1, 1);
    needs("1 1", "lineby", 1, 2);
    needs("1 1 2 2", "box", 4, 4);
    needs("@1 0 @1 0 @1 0", "curve", 1, 2);
    needs("@1 0 @1 60 add 0 @1 180 add 0", "curve", 16, 17);
    needs("1 1 0", "use", 2, 2);
    // As many RINGS as points.
    String rings = "99 [ 1 1 to ] repeat 20 [ 2 2 to ] repeat ";
    Plateroomprinter x = t.after(rings + "3 3 to close");
    t.due("120 rings", x.state(11), 120);
    t.due("120 points", x.state(12), 120);
    t.ring(x, 118, 0, 32, 32);
    t.ring(x, 119, 1, 48, 48);
    t.fault(x, FULL, "1 1 !to");
    t.fault(x, FULL, "1 1 !line");
    t.fault(x, FULL, "1 1 !by");
    t.outOfBounds(x, "ring 121", () -> x.ring(120, 0));
    t.due("its sets", t.after("1 cap " + rings + "3 3 to close stroke").figure(0, 1), 239);
    t.due("all kept and used", t.after(rings + "3 3 to close 0 keep new 1 1 0 use").ring(119, 1), 1);
  }

  /** The NAME 1 stands for where the POINT is. */
  private static void needs(String operands, String order, int open, int closed) {
    for (int kind = 0; kind < 2; kind++) {
      int needed = kind == 0 ? open : closed;
      for (int all = 119; all <= 121; all++) {
        int points = all - needed;
        String name = "/1 " + (kind == 0 ? points - 1 : 0) + " def ";
        String path = line(points) + (kind == 0 ? "" : "close ") + name + operands + " ";
        if (all <= 120) {
          t.due("points behind " + order, t.after(path + order).state(12), all);
        } else {
          t.fault(FULL, path + "!" + order);
        }
      }
    }
  }

  private static final String[] WITH_POINT = {"1 1 ?line", "1 1 ?by", "1 1 ?lineby", "1 1 2 2 3 3 ?curve", "?close",
      "1 ?show", "9 1 ?set", "1 ?image"};

  /** "ORDERS 29 to 33 without a POINT: POINT"; of 47 to 49 too. */
  private static void noPoint() {
    String[] without = {"", "1 1 to new", "1 1 to fill", "1 1 to evenfill", "1 1 to stroke", "1 1 to clip",
        "1 1 to evenclip", "save 1 1 to restore", "0 keep 1 1 0 use", "1 1 to 0 keep new"};
    String[] with = {"1 1 to", "1 1 to 1 1 by", "1 1 2 2 box", "1 1 to close", "1 1 to whole", "1 1 to page",
        "1 1 to 1 show", "1 1 to 9 1 set", "1 1 to 0 image", "1 1 to 0 keep", "1 1 to save new restore",
        "1 1 to 0 keep new 1 1 0 use", "1 1 to 2 pen 3 grey 1 turn"};
    for (String order : WITH_POINT) {
      for (String text : without) {
        t.due("no point behind " + text, t.after(text).state(8), 0);
        t.fault(POINT, text + " " + order.replace("?", "!"));
      }
      for (String text : with) {
        t.due("a point behind " + text, t.after(text).state(8), 1);
        t.after(text + " " + order.replace("?", ""));
      }
    }
    // Ahead of the RANGE of what is reckoned, behind that of the operands.
    t.fault(POINT, "9999 9999 !line");
    t.fault(POINT, "9999 9999 !by");
    t.fault(POINT, "9999 9999 !lineby");
    t.fault(POINT, "9999 9999 1 1 1 1 !curve");
    t.fault(RANGE, "-1 !show");
    t.fault(RANGE, "1 -1 !set");
    t.fault(POINT, "1 1 !set");
    t.fault(RANGE, "-1 !image");
    t.fault(RANGE, "4096 !image");
  }

  private static void rangeAheadOfFull() {
    String full = line(120);
    for (String text : new String[] {"2001 0 !to", "0 -2001 !line", "2000 0 !by", "0 2001 !lineby", "2000 0 1 1 !box",
        "119 0 119 0 2001 0 !curve", "2000 0 0 !use"}) {
      t.fault(RANGE, full + text);
    }
    for (String text : new String[] {"2000 0 !to", "0 -2000 !line", "1881 0 !by", "0 2000 !lineby", "1999 0 1 1 !box",
        "119 0 119 0 2000 0 !curve", "1996 0 0 !use"}) {
      t.fault(FULL, full + text);
    }
  }

  private static void closing() {
    Plateroomprinter x = t.after("1 2 to close");
    t.ring(x, 0, 1, 16, 32);
    t.due("the point of a ring of one", x.state(9), 16);
    x = t.after("1 2 to 3 4 line 1 show close");
    t.ring(x, 0, 1, 16, 32, 48, 64);
    t.due("the point is the first one again", x.state(9), 16);
    for (String order : new String[] {"9 9 line", "8 7 lineby", "9 9 9 9 9 9 curve"}) {
      x = t.after("1 2 to 3 4 line close " + order);
      t.due("a ring more", x.state(11), 2);
      t.due("begins with the point", x.point(1, 0, 0), 16);
      t.due("ends there", x.state(9), 144);
      t.due("is open", x.ring(1, 1), 0);
      x = t.after("1 2 to 3 4 line " + order);
      t.due("no ring more", x.state(11), 1);
    }
    x = t.after("1 2 to close close 3 4 to 5 6 line close close");
    t.ring(x, 0, 1, 16, 32);
    t.ring(x, 1, 1, 48, 64, 80, 96);
    t.due("no ring more", x.state(11), 2);
  }

  private static int bends(int axis, int one, int two, int three) {
    String controls = along(axis, one) + along(axis, two) + along(axis, three);
    return t.after(FINE + "0 0 to " + controls + "curve").state(12) - 1;
  }

  /** "are all -8 to 8". */
  private static void flatCurves() {
    for (int axis = 0; axis < 2; axis++) {
      for (int sign = -1; sign <= 1; sign += 2) {
        for (int d = 0; d <= 9; d++) {
          int due = d <= 8 ? 1 : 2;
          t.due("the first difference " + sign * d, bends(axis, 0, sign * d, 2 * sign * d), due);
          t.due("the second difference " + sign * d, bends(axis, 0, 0, sign * d), due);
        }
      }
    }
    t.ring(t.after(FINE + "0 0 to 0 0 9 0 18 0 curve"), 0, 0, 0, 0, 5, 0, 18, 0);
    t.ring(t.after(FINE + "0 0 to 0 0 -9 0 -18 0 curve"), 0, 0, 0, 0, -7, 0, -18, 0);
    t.ring(t.after(FINE + "0 0 to 0 0 0 9 0 18 curve"), 0, 0, 0, 0, 0, 5, 0, 18);
  }

  /** "If it is FLAT or was made by four halvings": each halving makes a fourth of both differences. */
  private static void halvedCurves() {
    int[][] due = {{6, 1}, {24, 2}, {96, 4}, {384, 8}, {1536, 16}, {6144, 16}, {10000, 16}};
    for (int[] d : due) {
      for (int axis = 0; axis < 2; axis++) {
        t.due("bends of " + d[0], bends(axis, 0, d[0], 3 * d[0]), d[1]);
        t.due("bends of -" + d[0], bends(axis, 0, -d[0], -3 * d[0]), d[1]);
      }
    }
    t.ring(t.after(FINE + "0 0 to 0 0 96 0 288 0 curve"), 0, 0, 0, 0, 18, 0, 72, 0, 162, 0, 288, 0);
    t.ring(t.after(FINE + "7 9 to 7 9 31 9 79 9 curve"), 0, 0, 7, 9, 25, 9, 79, 9);
    t.ring(t.after(FINE + "7 9 to 7 9 7 33 7 81 curve"), 0, 0, 7, 9, 7, 27, 7, 81);
    // Each curve anew.
    String bent = "0 0 to 0 0 6144 0 9999 0 curve ";
    t.due("one", t.after(FINE + bent).state(12), 17);
    t.due("three", t.after(FINE + bent + bent + bent).state(12), 51);
  }

  // ---- section 5

  private static void dotIs(String text, int x, int y, boolean in) {
    Plateroomprinter p = t.after(FINE + text);
    for (int rule = 0; rule < 2; rule++) {
      t.due("dot " + x + " " + y + " of " + text + " by " + rule, p.has(x, y, rule) ? 1 : 0, in ? 1 : 0);
      t.due("all moved by nothing", p.moved(0, 0, rule), p.dots(rule));
      t.due("clip", t.after(FINE + text + (rule == 0 ? " evenclip" : " clip")).state(13), p.dots(rule));
      t.due("fill", t.after(FINE + text + (rule == 0 ? " evenfill" : " fill")).dot(x, y), in ? 8 : 0);
    }
    t.due("inverse", p.inverse(), 1024 - p.dots(0));
  }

  /** "just one of y0 and y1 is no more than Y", and the place at that height "is no more than X". */
  private static void middlesOnEdges() {
    for (int k : new int[] {0, 7, 31}) {
      int middle = 16 * k + 8;
      for (int d = -1; d <= 1; d++) {
        int edge = middle + d;
        dotIs(edge + " 5 " + (middle + 5 - edge) + " 6 box", k, 0, d <= 0);
        dotIs(middle - 5 + " 5 " + (edge - middle + 5) + " 6 box", k, 0, d > 0);
        dotIs("5 " + edge + " 6 " + (middle + 5 - edge) + " box", 0, k, d <= 0);
        dotIs("5 " + (middle - 5) + " 6 " + (edge - middle + 5) + " box", 0, k, d > 0);
      }
    }
    t.due("all dots and no more", t.after(FINE + "8 8 497 497 box").dots(1), 1024);
    t.due("all but the first ones", t.after(FINE + "9 9 496 496 box").dots(1), 961);
    t.due("all but the last ones", t.after(FINE + "8 8 496 496 box").dots(1), 961);
  }

  /** The EDGE goes from x0, 0 to x1, 16: it is half way at the height of the first row's MIDDLES. */
  private static void slopes() {
    int[][] ends = {{0, 16}, {16, 0}, {8, 8}, {-100, 116}, {31984, -31968}, {-31983, 31999}};
    for (int[] end : ends) {
      for (int d = -1; d <= 1; d++) {
        String upper = number(end[0]) + " 0 ";
        String lower = number(end[1] + d) + " 16 ";
        String far = number(32000) + " ";
        dotIs(upper + "to " + lower + "line " + far + "16 line " + far + "0 line", 0, 0, d <= 0);
        dotIs(far + "0 to " + far + "16 line " + lower + "line " + upper + "line", 0, 0, d <= 0);
        dotIs(upper + "to " + lower + "line -9999 16 line -9999 0 line", 0, 0, d > 0);
        dotIs("-9999 0 to -9999 16 line " + lower + "line " + upper + "line", 0, 0, d > 0);
      }
    }
    // A seventeenth part of a sixteenth too far to the right.
    dotIs("1 0 to 16 17 line 999 17 line 999 0 line", 0, 0, false);
    dotIs("1 0 to 15 17 line 999 17 line 999 0 line", 0, 0, true);
    // A sixth of the way, and five sixths of it.
    for (int d = -1; d <= 1; d++) {
      dotIs("0 0 to " + (48 + d) + " 48 line 999 48 line 999 0 line", 0, 0, d <= 0);
      dotIs("-32 0 to " + (16 + d) + " 48 line 999 48 line 999 0 line", 0, 2, d <= 0);
    }
  }

  /** EVEN: "an odd number of EDGES"; TURNS: "does not sum to 0". */
  private static void rules() {
    String turned = "2 2 to 2 5 line 5 5 line 5 2 line ";
    for (int boxes = 0; boxes <= 4; boxes++) {
      for (int others = 0; others <= 4; others++) {
        String path = repeated("2 2 3 3 box", boxes) + repeated(turned, others);
        int even = (boxes + others) % 2 == 1 ? 9 : 0;
        int turns = boxes != others ? 9 : 0;
        Plateroomprinter x = t.after(path);
        t.due("even", x.dots(0), even);
        t.due("turns", x.dots(1), turns);
        t.due("evenfill", t.after(path + "evenfill").figure(0, 0), even);
        t.due("fill", t.after(path + "fill").figure(0, 0), turns);
        t.due("evenclip", t.after(path + "evenclip").state(13), even);
        t.due("clip", t.after(path + "clip").state(13), turns);
      }
    }
    // RINGS of no more than two points have no dots.
    for (String path : new String[] {"2 2 to", "2 2 to close", "2 2 to 9 9 line", "2 2 to 9 9 line close", "2 2 9 0 box"}) {
      t.due("no dots of " + path, t.after(path).dots(0) + t.after(path).dots(1), 0);
    }
  }

  private static void clips() {
    t.due("by all", t.after("0 0 32 32 box clip").state(13), 1024);
    t.due("by all but a row", t.after("0 0 32 31 box clip").state(13), 992);
    t.due("by one dot", t.after("31 31 1 1 box evenclip").state(13), 1);
    t.due("by two that share none", t.after("0 0 4 4 box clip 4 0 4 4 box clip").state(13), 0);
    t.due("by two that share one", t.after("0 0 4 4 box clip 3 3 4 4 box evenclip").state(13), 1);
    t.due("by a path beyond the page", t.after("32 0 4 4 box clip").state(13), 0);
    for (String order : new String[] {"clip", "evenclip"}) {
      Plateroomprinter x = t.after(order);
      t.due("by a path without rings", x.state(13), 0);
      t.due("run", Checks.run(x, "0 0 32 32 box fill 0 0 to 9 9 line stroke 0 0 to 8 show 4095 image"), 0);
      t.due("figures without dots", x.figures(), 4);
      t.due("dots", x.figure(0, 0) + x.figure(1, 0) + x.figure(2, 0) + x.figure(3, 0) + x.count(3), 0);
      t.due("their points are told", x.figure(0, 2), 4);
      t.due("run", Checks.run(x, "whole"), 0);
      t.due("all", x.state(13), 1024);
    }
  }

  /** "Behind each of these five the PATH is empty, and there is no POINT." */
  private static void emptyBehindFills() {
    for (String order : new String[] {"fill", "evenfill", "stroke", "clip", "evenclip"}) {
      for (String path : new String[] {"", "5 6 to", "1 1 5 5 box 9 9 to 7 7 line"}) {
        Plateroomprinter x = t.after(path + " " + order);
        for (int what = 8; what <= 12; what++) {
          t.due("state " + what + " behind " + order, x.state(what), 0);
        }
        t.outOfBounds(x, "a ring behind " + order, () -> x.ring(0, 0));
      }
    }
    t.due("whole leaves them", t.after("1 1 5 5 box whole").state(12), 4);
  }

  /** "at most 60 FIGURES; FULL". */
  private static void mostFigures() {
    for (String way : new String[] {"!fill", "!evenfill", "!stroke", "1 1 to 1 !show", "1 1 to 9 1 !set", "1 1 to 0 !image"}) {
      String plain = way.replace("!", "");
      t.due("59 with " + way, t.after("58 [ fill ] repeat " + plain).figures(), 59);
      t.due("60 with " + way, t.after("59 [ fill ] repeat " + plain).figures(), 60);
      t.fault(FULL, "60 [ fill ] repeat " + way);
      t.due("behind a page", t.after("60 [ fill ] repeat page " + plain).figures(), 1);
    }
    t.due("two digits", t.after("58 [ fill ] repeat 1 1 to 11 show").figures(), 60);
    t.fault(FULL, "59 [ fill ] repeat 1 1 to 11 !show");
    t.fault(FULL, "59 [ fill ] repeat 1 1 to 9 11 !set");
    Plateroomprinter x = t.after("60 [ fill ] repeat");
    t.fault(x, FULL, "0 0 9 9 box !fill");
    t.due("a clip is no figure", Checks.run(x, "0 0 9 9 box clip page"), 0);
    t.due("none", x.figures(), 0);
    t.outOfBounds(x, "the first one", () -> x.figure(0, 0));
    Plateroomprinter y = t.after("60 [ 1 1 2 2 box fill ] repeat");
    t.due("the last one", y.figure(59, 0), 4);
    t.due("is that of the dot", y.last(1, 1), 59);
    t.outOfBounds(y, "behind it", () -> y.figure(60, 0));
    t.yes("sound", y.isSound());
  }

  // ---- sections 6 and 7

  private static void tool(String order, int low, int high, int what) {
    for (int n = low; n <= high; n++) {
      t.due(n + " " + order, t.after(n + " " + order).state(what), n);
    }
    for (int n : new int[] {-99999, low - 1, high + 1, 99999}) {
      t.fault(RANGE, number(n) + " !" + order);
    }
  }

  private static void tools() {
    tool("pen", 1, 8, 0);
    tool("cap", 0, 1, 1);
    tool("join", 0, 1, 2);
    tool("size", 1, 8, 3);
    tool("grey", 0, 16, 7);
  }

  private static void sameDots(String what, Plateroomprinter x, Plateroomprinter y) {
    for (int row = 0; row < 32; row++) {
      t.due("row " + row + " of " + what, x.row(3, row), y.row(3, row));
    }
  }

  private static String corner(int x, int y, String order) {
    return x + " " + y + " " + order + " ";
  }

  /** "if they differ in x by at least as much as in y", for all directions; H is 8 * PEN. */
  private static void bars() {
    int[][] ways = {{40, 40}, {40, 39}, {39, 40}, {-40, 40}, {-40, 39}, {-39, 40}, {40, -40}, {40, -39}, {39, -40},
        {-40, -40}, {-40, -39}, {-39, -40}, {0, 0}, {9, 0}, {0, 9}};
    for (int[] way : ways) {
      for (int pen = 1; pen <= 8; pen += 7) {
        int x = 200 + way[0];
        int y = 200 + way[1];
        int h = 8 * pen;
        int dx = Math.abs(way[0]) >= Math.abs(way[1]) ? 0 : h;
        int dy = h - dx;
        String bar = corner(200 - dx, 200 - dy, "to") + corner(x - dx, y - dy, "line")
            + corner(x + dx, y + dy, "line") + corner(200 + dx, 200 + dy, "line");
        sameDots("the bar to " + x + " " + y, t.after(FINE + pen + " pen 200 200 to " + x + " " + y + " line stroke"),
            t.after(FINE + bar + "fill"));
        String square = "200 200 to 200 200 line ";
        sameDots("the square", t.after(FINE + pen + " pen 1 cap 200 200 to stroke"),
            t.after(FINE + corner(200 - h, 200 - h, corner(2 * h, 2 * h, "box fill")) + square));
      }
    }
  }

  /** RINGS of one, two and more points, OPEN and CLOSED. */
  private static void squaresAtPoints() {
    for (int points = 1; points <= 4; points++) {
      String path = "1 1 to " + repeated("3 4 lineby", points - 1);
      for (int tools = 0; tools < 4; tools++) {
        String with = tools % 2 + " cap " + tools / 2 + " join ";
        int open = points - 1 + tools % 2 * 2 + tools / 2 * Math.max(0, points - 2);
        int closed = points + tools / 2 * points;
        t.due("open, " + points + ", " + tools, t.after(with + path + "stroke").figure(0, 1), open);
        t.due("its points", t.after(with + path + "stroke").figure(0, 2), 4 * open);
        t.due("closed, " + points + ", " + tools, t.after(with + path + "close stroke").figure(0, 1), closed);
        t.due("both", t.after(with + path + "close " + path + "stroke").figure(0, 1), open + closed);
      }
    }
    t.due("no ring", t.after("1 cap 1 join stroke").figure(0, 1), 0);
  }

  private static int widthOf(int n) {
    int width = 0;
    for (char digit : ("" + n).toCharArray()) {
      width += digit == '1' ? 3 : 5;
    }
    return width;
  }

  /** "RANGE if n is below 0"; "digit by digit of n from the left". */
  private static void shownNumbers() {
    for (int n : new int[] {0, 1, 9, 10, 11, 99, 100, 101, 9999, 10000, 99999}) {
      for (int size = 1; size <= 8; size += 7) {
        Plateroomprinter x = t.after("2 2 to " + size + " size " + number(n) + " show");
        t.due("figures of " + n, x.figures(), ("" + n).length());
        t.due("point behind " + n, x.state(9), 32 + 16 * size * widthOf(n));
        t.due("its height", x.state(10), 32);
      }
    }
    for (int n : new int[] {-1, -9999, -99999}) {
      t.fault(RANGE, "2 2 to " + number(n) + " !show");
      t.fault(RANGE, "2 2 to 99 " + number(n) + " !set");
    }
  }

  /** "RANGE if it is below 0"; "1 more for the first ones, as many as are left over". */
  private static void setNumbers() {
    for (int n : new int[] {0, 1, 7, 10, 11, 444, 11111, 99999}) {
      for (int size = 1; size <= 8; size += 7) {
        int width = size * widthOf(n);
        String to = "2 2 to " + size + " size ";
        t.fault(RANGE, to + (width - 1) + " " + number(n) + " !set");
        t.fault(RANGE, to + "-99 " + number(n) + " !set");
        for (int more = 0; more <= 5; more++) {
          Plateroomprinter x = t.after(to + (width + more) + " " + number(n) + " set");
          t.due("point behind " + n, x.state(9), 32 + 16 * (n < 10 ? width : width + more));
          t.due("figures of " + n, x.figures(), ("" + n).length());
        }
      }
    }
    int[][] gaps = {{0, 0}, {1, 0}, {1, 1}, {2, 1}, {2, 2}, {3, 2}, {3, 3}};
    for (int rest = 0; rest < gaps.length; rest++) {
      // With the pen 2 a digit 1 covers the two dots from where it begins.
      int due = 6 | 6 << 3 + gaps[rest][0] | 6 << 6 + gaps[rest][0] + gaps[rest][1];
      t.due("a rest of " + rest, t.after("1 3 to 2 pen " + (9 + rest) + " 111 set").row(3, 5), due);
    }
  }

  /** POINT + DELTA of STROKES, of images, and behind each digit. */
  private static void farthestDigits() {
    String[] within = {"1995 1 to 3 show", "1 1994 to 3 show", "1997 1 to 1 show", "1 1994 to 1 show",
        "1990 1 to 33 show", "1989 1 to 11 33 set", "1996 1 to 8 image", "1 1997 to 256 image", "1999 1 to 1 image",
        "2000 2000 to 0 image"};
    String[] beyond = {"1996 1 to 3 !show", "1 1995 to 3 !show", "1998 1 to 1 !show", "1 1995 to 1 !show",
        "1991 1 to 33 !show", "1990 1 to 11 33 !set", "1997 1 to 8 !image", "1 1998 to 256 !image", "2000 1 to 1 !image",
        "2000 2000 to 4095 !image"};
    for (int k = 0; k < within.length; k++) {
      t.due("within", t.after(within[k]).state(8), 1);
      t.due("within, turned about", t.after("2 turn " + within[k]).state(8), 1);
      t.fault(RANGE, beyond[k]);
      t.fault(RANGE, "2 turn " + beyond[k]);
    }
    t.due("to the bound", t.after("1995 1 to 3 show").state(9), 32000);
    t.due("to the other one", t.after("2 turn 1995 1 to 3 show").state(9), -32000);
    // The STROKES of the last digit are RANGE though those of the first one are not.
    t.fault(RANGE, "1993 1 to 13 !show");
    t.due("just", t.after("1993 1 to 11 show").state(9), 31984);
  }

  private static String colour(int plate, int amount, int other) {
    StringBuilder s = new StringBuilder();
    for (int p = 0; p < 4; p++) {
      s.append(p == plate ? amount : other).append(' ');
    }
    return s.toString();
  }

  private static final int[][] SCREEN = {{0, 8, 2, 10}, {12, 4, 14, 6}, {3, 11, 1, 9}, {15, 7, 13, 5}};

  /** "RANGE if one is not 0 to 16"; a dot is on "if it is greater than the number". */
  private static void amounts() {
    for (int plate = 0; plate < 4; plate++) {
      for (int amount = 0; amount <= 16; amount++) {
        Plateroomprinter x = t.after("16 16 16 16 colour 0 0 32 32 box fill " + colour(plate, amount, 16)
            + "colour 28 0 4 32 box fill");
        t.due("amount", x.figure(1, 3 + plate), amount);
        for (int y = 0; y < 32; y++) {
          int due = 0x0fffffff;
          for (int k = 28; k < 32; k++) {
            due |= amount > SCREEN[(y + plate) % 4][(k + 2 * plate) % 4] ? 1 << k : 0;
          }
          t.due("row " + y + " of plate " + plate + " with " + amount, x.row(plate, y), due);
          t.due("of another one", x.row((plate + 1) % 4, y), -1);
        }
      }
      for (int amount : new int[] {-9999, -1, 17, 9999}) {
        t.fault(RANGE, colour(plate, amount, 0) + "!colour");
        t.fault(RANGE, colour(plate, amount, 16) + "!colour");
      }
    }
  }

  private static void images() {
    for (int k = 0; k < 12; k++) {
      Plateroomprinter x = t.after("3 4 to " + (1 << k) + " image");
      t.due("dots of the bit " + k, x.count(3), 1);
      t.due("its dot", x.dot(3 + k % 4, 4 + k / 4), 8);
      t.due("its ring", x.figure(0, 2), 4);
    }
    int[][] due = {{0, 0}, {1, 1}, {4094, 11}, {4095, 12}};
    for (int[] d : due) {
      t.due("sets of " + d[0], t.after("3 4 to " + d[0] + " image").figure(0, 1), d[1]);
    }
    for (int n : new int[] {-9999, -1, 4096, 9999}) {
      t.fault(RANGE, "3 4 to " + n + " !image");
    }
  }

  // ---- section 8

  /** "RANGE if n is not 0 to 4"; "NAME if there is no FORM n". */
  private static void formNumbers() {
    String all = "1 1 to 0 keep 1 keep 2 keep 3 keep 4 keep ";
    for (int n = 0; n <= 4; n++) {
      Plateroomprinter x = t.after("1 1 to " + n + " keep");
      for (int other = 0; other <= 4; other++) {
        t.due("kept " + other, x.form(other, 0), other == n ? 1 : 0);
        if (other != n) {
          t.fault(x, NAME, "1 1 " + other + " !use");
        }
      }
      t.fault(NAME, "9999 1 " + n + " !use");
      t.due("used", t.after(all + "1 1 " + n + " use").state(12), 2);
    }
    for (int n : new int[] {-9999, -1, 5, 9999}) {
      t.fault(RANGE, n + " !keep");
      t.fault(RANGE, "1 1 " + n + " !use");
      t.fault(RANGE, all + n + " !keep");
      t.fault(RANGE, all + "1 1 " + n + " !use");
    }
    // The FORM is as the PATH was as it was kept.
    Plateroomprinter x = t.after("1 1 to 2 keep 5 5 line close new 2 3 2 use");
    t.ring(x, 0, 0, 48, 64);
    x = t.after("1 1 to close 2 keep new 2 3 2 use");
    t.ring(x, 0, 1, 48, 64);
    // Nothing is left of what was kept before.
    x = t.after("1 1 to close 2 2 to close 0 keep new 3 3 to 0 keep new 0 0 0 use");
    t.due("one ring", x.state(11), 1);
    t.ring(x, 0, 0, 48, 48);
  }

  /** "RANGE if one point is beyond -32000 to 32000". */
  private static void movedForms() {
    for (int axis = 0; axis < 2; axis++) {
      for (int sign = -1; sign <= 1; sign += 2) {
        String form = "0 0 to 0 keep new ";
        t.due("moved", t.after(form + along(axis, sign * 1999) + "0 use").state(9 + axis), sign * 31984);
        t.due("moved", t.after(form + along(axis, sign * 2000) + "0 use").state(9 + axis), sign * 32000);
        t.fault(RANGE, form + along(axis, sign * 2001) + "0 !use");
        t.fault(RANGE, form + along(axis, sign * 99999) + "0 !use");
        String fine = FINE + along(axis, sign * 15) + "to 0 keep new ";
        t.due("moved", t.after(fine + along(axis, sign * 1999) + "0 use").state(9 + axis), sign * 31999);
        t.fault(RANGE, fine + along(axis, sign * 2000) + "0 !use");
        // The first or the middle point alone is too far.
        t.fault(RANGE, along(axis, sign) + "to 0 0 line 0 keep new " + along(axis, sign * 2000) + "0 !use");
        t.fault(RANGE, "0 0 to " + along(axis, sign) + "line 0 0 line 0 keep new " + along(axis, sign * 2000) + "0 !use");
      }
    }
    t.due("the last point", t.after("1 2 to 3 4 line 0 keep new 1 1 0 use").state(9), 64);
    t.due("the first one", t.after("1 2 to 3 4 line close 0 keep new 1 1 0 use").state(9), 32);
    t.due("that of the last ring", t.after("9 9 to 1 2 to 3 4 line close 0 keep new 1 1 0 use").state(9), 32);
    Plateroomprinter x = t.after("0 keep 5 6 to 2000 9999 0 use");
    t.due("a form without rings", x.state(12), 1);
    t.due("leaves the point", x.state(9), 80);
    t.due("also where it is no point of the path", t.after("0 keep 5 6 to 1 show 1 1 0 use").state(9), 128);
    t.due("full, and nothing comes", t.after("0 keep " + line(120).replace("0 keep", "1 keep") + "1 1 0 use").state(12), 120);
  }

  private static void pages() {
    Plateroomprinter x = new Plateroomprinter();
    for (int what = 0; what <= 5; what++) {
      t.due("page " + what + " without one", x.page(what), 0);
    }
    t.due("no last page", x.lastDot(0, 0), -1);
    t.due("an empty page", Checks.run(x, "page"), 0);
    t.due("printed", x.page(0), 1);
    t.due("a dot of it", x.lastDot(0, 0), 0);
    t.due("a dot of it", x.lastDot(31, 31), 0);
    t.due("a full page", Checks.run(x, "16 16 16 16 colour 0 0 32 32 box fill page"), 0);
    t.due("printed", x.page(0), 2);
    for (int what = 1; what <= 5; what++) {
      t.due("page " + what, x.page(what), 1024);
    }
    t.due("a dot of it", x.lastDot(31, 31), 15);
    t.due("no figures", x.figures(), 0);
    t.due("no dots", x.count(0) + x.count(1) + x.count(2) + x.count(3), 0);
    t.due("once more", Checks.run(x, "page page"), 0);
    t.due("printed", x.page(0), 4);
    t.due("nothing on it", x.page(5), 0);
    t.due("printed before", x.fresh(), 4);
    t.due("no last page", x.lastDot(31, 31), -1);
  }

  /** "BANDS of a height h (1 to 32)". */
  private static void bandHeights() {
    Plateroomprinter x = t.after("0 0 32 32 box fill 5 grey 0 30 9 2 box fill 9 9 to 8 size 0 grey 8 show");
    for (int height = 1; height <= 32; height++) {
      t.yes("bands of " + height, x.bands(height));
    }
    for (int height : new int[] {Integer.MIN_VALUE, -1, 0, 33, Integer.MAX_VALUE}) {
      t.illegalArgument(x, "bands of " + height, () -> x.bands(height));
    }
  }

  /** "a number above 99 is told as 99, then 0, then the rest (again so, if that is above 99)". */
  private static void runsOf99() {
    int[][] due = {{0}, {1}, {98}, {99}, {99, 0, 1}, {99, 0, 98}, {99, 0, 99}, {99, 0, 99, 0, 1}, {99, 0, 99, 0, 99},
        {99, 0, 99, 0, 99, 0, 1}};
    int[] lengths = {0, 1, 98, 99, 100, 197, 198, 199, 297, 298};
    for (int k = 0; k < lengths.length; k++) {
      int rows = lengths[k] / 32;
      int more = lengths[k] % 32;
      String dots = "0 0 32 " + rows + " box 0 " + rows + " " + more + " 1 box ";
      Plateroomprinter on = t.after(dots + "fill");
      Plateroomprinter off = t.after("0 0 32 32 box fill 0 grey " + dots + "fill");
      t.due("dots", on.count(3), lengths[k]);
      if (lengths[k] > 0) {
        t.due("none off come first", on.runAt(3, 0), 0);
      }
      for (int n = 0; n < due[k].length; n++) {
        t.due("number " + n + " of " + lengths[k] + " on", lengths[k] > 0 ? on.runAt(3, n + 1) : 0, due[k][n]);
        t.due("number " + n + " of " + lengths[k] + " off", off.runAt(3, n), due[k][n]);
      }
      int left = 1024 - lengths[k];
      int parts = 2 * ((left - 1) / 99) + 1;
      t.due("numbers, on", on.runs(3), lengths[k] > 0 ? 1 + due[k].length + parts : parts);
      t.due("numbers, off", off.runs(3), due[k].length + parts);
      t.due("the last one", off.runAt(3, due[k].length + parts - 1), left - (left - 1) / 99 * 99);
      t.outOfBounds(off, "behind it", () -> off.runAt(3, off.runs(3)));
      t.outOfBounds(off, "ahead of it", () -> off.runAt(3, -1));
    }
  }
}
