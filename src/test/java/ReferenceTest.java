import java.util.ArrayList;
import java.util.List;
import java.util.function.LongSupplier;

/**
 * Runs of calls made up by a fixed row of numbers: whatever the class answers
 * or throws must be what the Reference answers or throws.
 */
public final class ReferenceTest {
  private static final int MOST_CALLS = 512;
  private static long seed;
  private static int compared;
  private static int wrong;
  private static final int[] faults = new int[12];
  private static int shown;

  private static int below(int n) {
    seed = seed * 6364136223846793005L + 1442695040888963407L;
    return (int) ((seed >>> 33) % n);
  }

  private static int from(int low, int high) {
    return low + below(high - low + 1);
  }

  private static String outcome(LongSupplier call) {
    try {
      return Long.toString(call.getAsLong());
    } catch (IllegalArgumentException | IllegalStateException | IndexOutOfBoundsException e) {
      return e.getClass().getSimpleName();
    }
  }

  private static void same(String what, LongSupplier got, LongSupplier due) {
    compared++;
    String g = outcome(got);
    String d = outcome(due);
    if (!g.equals(d)) {
      wrong++;
      if (shown++ < 20) {
        System.out.println(what + " answered " + g + ", the Reference " + d);
      }
    }
  }

  // ---- programs

  private static final class Writer {
    final List<int[]> out = new ArrayList<>();
    /** Whether there is a POINT, as far as can be guessed here: most pieces are made to go well. */
    boolean pointed;
    final boolean[] named = new boolean[10];

    void needPoint() {
      if (!pointed && below(15) > 0) {
        numbers(from(0, 24), from(0, 24));
        put(1, 28);
        pointed = true;
      }
    }

    void put(int kind, int number) {
      out.add(new int[] {kind, number});
    }

    void number(int n) {
      if (n > 9999 || n < -9999) {
        put(0, n / 9999);
        put(0, 9999);
        put(1, 2);
        put(0, n % 9999);
        put(1, 0);
      } else {
        put(0, n);
      }
    }

    void numbers(int... all) {
      for (int n : all) {
        number(n);
      }
    }
  }

  private static int place() {
    int k = below(20);
    return k == 0 ? from(-2100, 2100) : k == 1 ? from(-99999, 99999) : k < 5 ? from(-40, 80) : from(-4, 36);
  }

  private static int small(int low, int high) {
    return below(12) == 0 ? from(low - 2, high + 2) : from(low, high);
  }

  private static void pathPiece(Writer w) {
    int k = below(9);
    if (k > 0 && k < 7) {
      w.needPoint();
    }
    w.pointed = w.pointed || k == 0 || k == 7;
    switch (k) {
      case 0: w.numbers(place(), place()); w.put(1, 28); break;
      case 1: case 2: w.numbers(place(), place()); w.put(1, 29); break;
      case 3: w.numbers(from(-6, 6), from(-6, 6)); w.put(1, 30); break;
      case 4: w.numbers(from(-12, 12), from(-12, 12)); w.put(1, 31); break;
      case 5: w.numbers(place(), place(), place(), place(), place(), place()); w.put(1, 32); break;
      case 6: w.put(1, 33); break;
      case 7: w.numbers(place(), place(), from(-5, 30), from(-5, 30)); w.put(1, 34); break;
      default: if (below(6) == 0) w.put(1, 27); break;
    }
  }

  private static void matrixPiece(Writer w) {
    switch (below(8)) {
      case 0: w.put(1, 21); break;
      case 1: w.put(1, 22); break;
      case 2: w.numbers(place(), place()); w.put(1, 23); break;
      case 3: {
        int most = below(6) == 0 ? 9999 : 4;
        w.numbers(from(-most, most), from(-most, most), from(1, most), from(1, most));
        w.put(1, 24);
        break;
      }
      case 4: w.number(from(-9, 9)); w.put(1, 25); break;
      case 5: {
        int most = below(6) == 0 ? 9999 : 4;
        w.numbers(from(-most, most), from(-1, most));
        w.put(1, 26);
        break;
      }
      default: w.numbers(from(-2, 4), from(1, 3), from(-2, 4), from(1, 3)); w.put(1, 24); break;
    }
  }

  private static void toolPiece(Writer w) {
    int k = below(12);
    if (k > 5 && k < 9) {
      w.needPoint();
    }
    switch (k) {
      case 0: w.numbers(small(0, 16), small(0, 16), small(0, 16), small(0, 16)); w.put(1, 41); break;
      case 1: w.number(small(0, 16)); w.put(1, 42); break;
      case 2: w.number(small(1, 8)); w.put(1, 43); break;
      case 3: w.number(small(0, 1)); w.put(1, 44); break;
      case 4: w.number(small(0, 1)); w.put(1, 45); break;
      case 5: w.number(small(1, 8)); w.put(1, 46); break;
      case 6: w.number(below(3) == 0 ? from(-3, 99999) : from(0, 120)); w.put(1, 47); break;
      case 7: w.numbers(from(0, 60), from(0, 999)); w.put(1, 48); break;
      case 8: w.number(small(0, 4095)); w.put(1, 49); break;
      case 9: w.number(small(0, 4)); w.put(1, 50); break;
      case 10: w.numbers(from(-20, 20), from(-20, 20), small(0, 4)); w.put(1, 51); break;
      default: if (below(3) == 0) w.put(1, 52); break;
    }
  }

  private static void fillPiece(Writer w) {
    int[] orders = {35, 35, 36, 36, 37, 37, 37, 38, 39, 40};
    int order = orders[below(orders.length)];
    w.put(1, order);
    w.pointed = w.pointed && order == 40;
  }

  private static void sumPiece(Writer w) {
    int most = below(4) == 0 ? 99999 : 12;
    switch (below(14)) {
      case 0: case 1: case 2: case 3: case 4: case 5:
        w.numbers(from(-most, most), from(-most, most));
        w.put(1, below(9));
        break;
      case 6: w.put(1, 9); break;
      case 7: w.put(1, 10); break;
      case 8: w.put(1, 11); break;
      case 9: w.number(from(-1, 5)); w.put(1, 12); break;
      case 10: w.put(1, 13); break;
      case 11: w.put(2, below(10)); break;
      case 12: doName(w); break;
      default: w.put(1, below(53)); break;
    }
  }

  private static void doName(Writer w) {
    int name = below(10);
    if (w.named[name] || below(8) == 0) {
      w.put(3, name);
    }
  }

  /** Loops in loops, names that do themselves, big dots: what goes towards DEEP, FULL and BOUND. */
  private static void heavyPiece(Writer w) {
    int name = below(10);
    switch (below(6)) {
      case 0:
        w.put(2, name);
        w.put(4, 0);
        w.put(1, 13);
        w.put(1, below(2) == 0 ? 10 : 9);
        w.put(3, name);
        if (below(2) == 0) {
          w.number(3);
        }
        w.put(5, 0);
        w.put(1, 14);
        w.put(3, name);
        break;
      case 1:
        w.number(from(40, 99));
        w.put(4, 0);
        w.number(from(1, 99));
        w.put(4, 0);
        if (below(2) == 0) {
          w.number(1);
          w.put(1, 10);
        }
        w.put(5, 0);
        w.put(1, 18);
        w.put(5, 0);
        w.put(1, 18);
        break;
      case 2:
        w.numbers(0, 1, from(20, 45));
        w.put(4, 0);
        w.put(5, 0);
        w.put(1, 19);
        break;
      case 3:
        w.number(from(1, 6));
        w.put(4, 0);
        w.numbers(-1, -1, 40, 40);
        w.put(1, 34);
        w.put(1, below(2) == 0 ? 35 : 9);
        w.put(5, 0);
        w.put(1, 18);
        break;
      case 4: {
        int levels = from(9, 12);
        w.number(name);
        for (int k = 0; k < levels; k++) {
          w.put(4, 0);
        }
        w.put(1, 9);
        for (int k = 0; k < levels; k++) {
          w.put(5, 0);
          w.put(1, 15);
        }
        break;
      }
      default:
        w.number(from(50, 70));
        w.put(4, 0);
        w.put(1, below(2) == 0 ? 35 : 37);
        w.put(5, 0);
        w.put(1, 18);
        break;
    }
  }

  private static void body(Writer w, int depth, int many) {
    w.put(4, 0);
    for (int k = 0; k < many; k++) {
      piece(w, depth + 1);
    }
    w.put(5, 0);
  }

  private static void flowPiece(Writer w, int depth) {
    if (depth > 3) {
      sumPiece(w);
      return;
    }
    switch (below(9)) {
      case 0:
        int name = below(10);
        w.named[name] = true;
        w.put(2, name);
        if (below(3) > 0) {
          body(w, depth, below(4));
        } else {
          w.number(from(-20, 20));
        }
        w.put(1, 14);
        break;
      case 1: body(w, depth, below(3)); w.put(1, 15); break;
      case 2: w.number(below(2)); body(w, depth, below(3)); w.put(1, 16); break;
      case 3: w.number(below(2)); body(w, depth, below(3)); body(w, depth, below(3)); w.put(1, 17); break;
      case 4: w.number(below(5) == 0 ? from(-2, 101) : below(5)); body(w, depth, below(3)); w.put(1, 18); break;
      case 5:
        w.numbers(from(-6, 6), from(-3, 3), from(-6, 6));
        body(w, depth, below(3));
        w.put(1, 19);
        break;
      case 6: doName(w); break;
      case 7: if (below(4) == 0) w.put(1, 20); else heavyPiece(w); break;
      default:
        w.number(below(4));
        w.put(4, 0);
        w.put(1, below(3) == 0 ? 20 : 13);
        w.put(1, 10);
        piece(w, depth + 1);
        w.put(5, 0);
        w.put(1, 18);
        break;
    }
  }

  private static void piece(Writer w, int depth) {
    int k = below(100);
    if (k < 38) {
      pathPiece(w);
    } else if (k < 50) {
      matrixPiece(w);
    } else if (k < 65) {
      toolPiece(w);
    } else if (k < 78) {
      fillPiece(w);
    } else if (k < 86) {
      sumPiece(w);
    } else if (k < 97) {
      flowPiece(w, depth);
    } else if (k < 99) {
      w.put(from(-1, 6), from(-1, 9));
    } else {
      w.put(below(6), from(-10100, 10100));
    }
  }

  // ---- calls

  private static void write(Plateroomprinter x, Reference r, List<int[]> toks) {
    int k = 0;
    while (k < toks.size()) {
      if (k + 2 < toks.size() && below(3) > 0) {
        int[] a = toks.get(k);
        int[] b = toks.get(k + 1);
        int[] c = toks.get(k + 2);
        same("three", () -> x.three(a[0], a[1], b[0], b[1], c[0], c[1]),
            () -> r.three(a[0], a[1], b[0], b[1], c[0], c[1]));
        k += 3;
      } else {
        int[] a = toks.get(k);
        same("token", () -> x.token(a[0], a[1]), () -> r.token(a[0], a[1]));
        k++;
      }
    }
  }

  private static long bit(boolean b) {
    return b ? 1 : 0;
  }

  private static void ask(Plateroomprinter x, Reference r) {
    int a = from(-1, 33);
    int b = from(-1, 33);
    int c = from(-1, 5);
    int d = from(-1, 6);
    int e = from(-1, 15);
    int p = from(-1, 4);
    int q = from(-1, 2);
    same("tokenAt", () -> x.tokenAt(a, q), () -> r.tokenAt(a, q));
    same("fault", () -> x.fault(c), () -> r.fault(c));
    same("item", () -> x.item(a, q), () -> r.item(a, q));
    same("name", () -> x.name(e, q), () -> r.name(e, q));
    same("cost", () -> x.cost(c), () -> r.cost(c));
    same("done", () -> x.done(a + b), () -> r.done(a + b));
    same("state", () -> x.state(e), () -> r.state(e));
    same("matrix", () -> x.matrix(d, q), () -> r.matrix(d, q));
    same("ring", () -> x.ring(c, q), () -> r.ring(c, q));
    same("point", () -> x.point(c, e, q), () -> r.point(c, e, q));
    same("form", () -> x.form(c, p), () -> r.form(c, p));
    same("has", () -> bit(x.has(a, b, q)), () -> bit(r.has(a, b, q)));
    same("dots", () -> x.dots(q), () -> r.dots(q));
    same("moved", () -> x.moved(a - 12, b - 12, q), () -> r.moved(a - 12, b - 12, q));
    same("inverse", x::inverse, r::inverse);
    same("halves", () -> x.halves(c, d, e, p), () -> r.halves(c, d, e, p));
    same("halves", () -> x.halves(0, 0, 2, c), () -> r.halves(0, 0, 2, c));
    same("figure", () -> x.figure(a, d), () -> r.figure(a, d));
    same("last", () -> x.last(a, b), () -> r.last(a, b));
    same("dot", () -> x.dot(a, b), () -> r.dot(a, b));
    same("row", () -> x.row(p, b), () -> r.row(p, b));
    same("count", () -> x.count(p), () -> r.count(p));
    same("bands", () -> bit(x.bands(a)), () -> bit(r.bands(a)));
    same("runs", () -> x.runs(p), () -> r.runs(p));
    same("runAt", () -> x.runAt(p, a), () -> r.runAt(p, a));
    same("page", () -> x.page(d), () -> r.page(d));
    same("lastDot", () -> x.lastDot(a, b), () -> r.lastDot(a, b));
  }

  private static void object(int number) {
    seed = number * 7919L + 17;
    Plateroomprinter x = new Plateroomprinter();
    Reference r = new Reference();
    int first = compared;
    // Behind the 512th call answers are free, and a round ends with some forty.
    for (int k = 0; compared - first < MOST_CALLS - 40; k++) {
      int budget = MOST_CALLS - 40 - (compared - first);
      Writer w = new Writer();
      w.pointed = r.w.now.point != null;
      for (int n = 0; n < 10; n++) {
        w.named[n] = r.w.names[n] != null;
      }
      int pieces = 1 + below(below(4) == 0 ? 25 : 6);
      for (int n = 0; n < pieces; n++) {
        piece(w, 0);
      }
      List<int[]> toks = w.out.size() > budget ? w.out.subList(0, budget) : w.out;
      write(x, r, toks);
      same("run of object " + number, x::run, r::run);
      faults[r.fault(0)]++;
      same("digest behind run " + k + " of object " + number, x::digest, r::digest);
      same("isSound", () -> bit(x.isSound()), () -> 1);
      ask(x, r);
      if (below(5) > 0) {
        same("wipe", x::wipe, r::wipe);
      } else {
        same("drop", x::drop, r::drop);
      }
      if (below(60) == 0) {
        same("fresh", x::fresh, r::fresh);
      }
      if (below(9) == 0) {
        same("knock", x::knock, r::knock);
      }
    }
  }

  public static void main(String[] args) {
    int objects = args.length > 0 ? Integer.parseInt(args[0]) : 450;
    int first = args.length > 1 ? Integer.parseInt(args[1]) : 0;
    for (int k = first; k < first + objects; k++) {
      object(k);
    }
    System.out.println(compared + " answers compared, " + wrong + " differ; runs by fault "
        + java.util.Arrays.toString(faults));
    if (wrong != 0) {
      System.exit(1);
    }
  }
}
