/** Promises 1 to 5 and 7 to 39: each call by itself, with the edges and the wrong inputs that it names. */
public final class CallsTest {
  private static final int NONE = -1;
  private static final Checks t = new Checks();

  public static void main(String[] args) {
    newObject();
    token();
    three();
    drop();
    wipe();
    fresh();
    knock();
    tokenAt();
    fault();
    item();
    name();
    cost();
    done();
    state();
    matrix();
    ringAndPoint();
    form();
    has();
    dotsAndMoved();
    inverse();
    halves();
    figure();
    last();
    dotRowCount();
    bands();
    runs();
    page();
    sound();
    digest();
    corners();
    refusedCallsAreNotCounted();
    t.end();
  }

  private static void isAsAtFirst(Plateroomprinter x) {
    for (int k = 0; k < 3; k++) {
      t.due("fault " + k, x.fault(k), k == 0 ? 0 : NONE);
      t.due("cost " + k, x.cost(k), 0);
    }
    t.due("items", x.items(), 0);
    for (int k = 0; k < 10; k++) {
      t.due("name " + k, x.name(k, 0), NONE);
      t.due("name " + k, x.name(k, 1), 0);
    }
    for (int k = 0; k < 53; k++) {
      t.due("done " + k, x.done(k), 0);
    }
    int[] state = {1, 0, 0, 1, 0, 0, 0, 16, 0, 0, 0, 0, 0, 1024, 0};
    for (int k = 0; k < state.length; k++) {
      t.due("state " + k, x.state(k), state[k]);
    }
    for (int k = 0; k < 6; k++) {
      t.due("numerator " + k, x.matrix(k, 0), k == 0 || k == 3 ? 1 : 0);
      t.due("denominator " + k, x.matrix(k, 1), 1);
      t.due("page " + k, x.page(k), 0);
    }
    for (int k = 0; k < 5; k++) {
      t.due("form " + k, x.form(k, 0) + x.form(k, 1) + x.form(k, 2), 0);
    }
    t.due("figures", x.figures(), 0);
    for (int plate = 0; plate < 4; plate++) {
      t.due("plate " + plate, x.count(plate), 0);
    }
    t.due("last page", x.lastDot(0, 0), NONE);
    t.due("last figure", x.last(0, 0), NONE);
    t.yes("sound", x.isSound());
  }

  private static void newObject() {
    Plateroomprinter x = new Plateroomprinter();
    t.due("tokens", x.tokens(), 0);
    isAsAtFirst(x);
    t.due("knock", x.knock(), 1);
    Plateroomprinter y = new Plateroomprinter();
    t.due("objects share nothing", y.knock(), 1);
  }

  private static void token() {
    Plateroomprinter x = new Plateroomprinter();
    int[][] good = {{0, -9999}, {0, 9999}, {0, 0}, {1, 0}, {1, 52}, {2, 0}, {2, 9}, {3, 0}, {3, 9}, {4, 0}, {5, 0}};
    int[][] bad = {
      {0, -10000}, {0, 10000}, {1, -1}, {1, 53}, {2, -1}, {2, 10}, {3, -1}, {3, 10}, {4, 1}, {4, -1},
      {5, 1}, {5, -1}, {6, 0}, {-1, 0}, {Integer.MAX_VALUE, 0}, {0, Integer.MIN_VALUE}
    };
    for (int k = 0; k < good.length; k++) {
      t.due("token", x.token(good[k][0], good[k][1]), k + 1);
    }
    for (int[] b : bad) {
      t.illegalArgument(x, "token " + b[0] + " " + b[1], () -> x.token(b[0], b[1]));
      t.illegalArgument(x, "first of three", () -> x.three(b[0], b[1], 0, 0, 0, 0));
      t.illegalArgument(x, "second of three", () -> x.three(0, 0, b[0], b[1], 0, 0));
      t.illegalArgument(x, "last of three", () -> x.three(0, 0, 0, 0, b[0], b[1]));
    }
    t.due("nothing came", x.tokens(), good.length);
    for (int k = 0; k < good.length; k++) {
      t.due("kind", x.tokenAt(k, 0), good[k][0]);
      t.due("number", x.tokenAt(k, 1), good[k][1]);
    }
  }

  private static void three() {
    Plateroomprinter x = new Plateroomprinter();
    t.due("three", x.three(0, 5, 1, 6, 2, 7), 3);
    int[] due = {0, 5, 1, 6, 2, 7};
    for (int k = 0; k < 6; k++) {
      t.due("part " + k, x.tokenAt(k / 2, k % 2), due[k]);
    }
    for (int k = 1; k < 132; k++) {
      x.three(0, k, 0, k, 0, k);
    }
    t.due("396 and one", x.token(0, 1), 397);
    t.due("three more", x.three(0, 1, 0, 2, 0, 3), 400);
    t.illegalState(x, "token 401", () -> x.token(0, 1));
    t.illegalArgument(x, "wrong and full", () -> x.token(0, 10000));
    t.illegalState(x, "three", () -> x.three(0, 1, 0, 1, 0, 1));
    t.illegalArgument(x, "wrong and full", () -> x.three(0, 1, 0, 1, 1, 53));
    for (int k = 0; k < 2; k++) {
      x.drop();
      t.illegalState(x, "room for " + (k + 1), () -> x.three(0, 1, 0, 1, 0, 1));
    }
    t.due("tokens", x.tokens(), 398);
    t.due("one", x.token(0, 9), 399);
  }

  private static void drop() {
    Plateroomprinter x = new Plateroomprinter();
    t.illegalState(x, "drop", x::drop);
    x.three(0, 5, 1, 6, 3, 7);
    t.due("drop", x.drop(), 3);
    t.due("drop", x.drop(), 1);
    t.due("tokens", x.tokens(), 1);
    t.due("the first stays", x.tokenAt(0, 1), 5);
    t.due("drop", x.drop(), 0);
    t.illegalState(x, "drop", x::drop);
    x.run();
    Checks.run(x, "1 2");
    t.illegalState(x, "drop behind a run", x::drop);
  }

  private static void wipe() {
    Plateroomprinter x = new Plateroomprinter();
    t.due("wipe", x.wipe(), 0);
    x.three(0, 5, 1, 6, 3, 7);
    t.due("wipe", x.wipe(), 3);
    t.due("tokens", x.tokens(), 0);
    t.due("wipe", x.wipe(), 0);
  }

  private static final String ALL = "1 /2 [ 3 ] /4 5 def 3 pen 1 cap 1 join 2 size 1 2 3 4 colour 2 3 move "
      + "1 1 9 9 box 2 keep fill page 2 2 9 9 box fill 1 1 to 3 show 2 2 3 3 box clip 5 5 to 6 6 line save";

  private static void fresh() {
    Plateroomprinter x = t.after(ALL, "page 0 0 to");
    x.knock();
    x.knock();
    t.due("a fault", Checks.run(x, "1 0 div"), 4);
    t.due("printed before", x.fresh(), 2);
    isAsAtFirst(x);
    t.due("the program stays", x.tokens(), 3);
    t.due("the refused stay", x.knock(), 3);
    t.due("fresh", x.fresh(), 0);
    x.wipe();
    t.due("run", Checks.run(x, "1 1 2 2 box fill"), 0);
    t.due("count", x.count(3), 4);
    t.fault(x, 5, "0 0 2 !use");
    t.fault(x, 1, "!restore");
    t.fault(x, 5, "!@4");
    freshIsAsNew();
  }

  /** Also with each NAME, FORM and ORDER, and with a page that is full of dots. */
  private static void freshIsAsNew() {
    StringBuilder names = new StringBuilder();
    for (int k = 0; k < 10; k++) {
      names.append('/').append(k).append(" 5 def ");
    }
    Plateroomprinter x = t.after(names + "1 2 add 1 1 to 2 2 line 0 keep 1 keep 2 keep 3 keep 4 keep save 9 9 to save 2 2 move",
        "16 16 16 16 colour 0 0 32 32 box fill page 0 0 32 32 box fill 0 0 9 9 box clip 5 5 to 8 show 3 3 3 3 colour");
    t.due("fresh", x.fresh(), 1);
    t.due("all", x.digest(), new Plateroomprinter().digest());
    for (int k = 0; k < 5; k++) {
      t.fault(x, 5, "0 0 " + k + " !use");
      t.fault(x, 5, "!@" + 2 * k);
    }
    t.fault(x, 1, "!restore");
    t.due("run", Checks.run(x, "1 1 2 2 box fill"), 0);
    t.due("a page of these dots alone", x.count(3), 4);
    t.due("nothing on the others", x.count(0) + x.count(1) + x.count(2), 0);
    t.due("the first figure", x.last(1, 1), 0);
  }

  private static void knock() {
    Plateroomprinter x = new Plateroomprinter();
    for (int k = 1; k < 5; k++) {
      t.due("knock", x.knock(), k);
    }
    Checks.run(x, "div");
    t.due("knock", x.knock(), 5);
  }

  private static void tokenAt() {
    Plateroomprinter x = new Plateroomprinter();
    t.outOfBounds(x, "no place", () -> x.tokenAt(0, 0));
    x.token(1, 7);
    t.due("kind", x.tokenAt(0, 0), 1);
    t.due("number", x.tokenAt(0, 1), 7);
    t.outOfBounds(x, "place", () -> x.tokenAt(1, 0));
    t.outOfBounds(x, "place", () -> x.tokenAt(-1, 0));
    t.outOfBounds(x, "place ahead of what", () -> x.tokenAt(1, 2));
    t.illegalArgument(x, "what", () -> x.tokenAt(0, 2));
    t.illegalArgument(x, "what", () -> x.tokenAt(0, -1));
    t.due("tokens", x.tokens(), 1);
    x.wipe();
    Checks.run(x, "1 2");
    x.token(2, 5);
    t.due("behind a run", x.tokenAt(0, 1), 5);
    t.outOfBounds(x, "behind a run", () -> x.tokenAt(1, 0));
    t.outOfBounds(x, "behind a run", () -> x.tokenAt(-1, 0));
  }

  private static void fault() {
    Plateroomprinter x = t.after("/0 [ 1 2 3 @1 ] def");
    Checks.run(x, "1 pop @0");
    t.due("code", x.fault(0), 5);
    t.due("place", x.fault(1), 2);
    t.due("own place", x.fault(2), 3);
    t.illegalArgument(x, "what", () -> x.fault(3));
    t.illegalArgument(x, "what", () -> x.fault(-1));
    x.wipe();
    t.due("it stays", x.fault(0), 5);
  }

  private static void item() {
    Plateroomprinter x = t.after("-5 /2 [ 3 4 [ ] ]");
    int[][] due = {{2, 4}, {1, 2}, {0, -5}};
    for (int k = 0; k < 3; k++) {
      t.due("sort of " + k, x.item(k, 0), due[k][0]);
      t.due("value of " + k, x.item(k, 1), due[k][1]);
    }
    t.outOfBounds(x, "place", () -> x.item(3, 0));
    t.outOfBounds(x, "place", () -> x.item(-1, 0));
    t.outOfBounds(x, "place ahead of what", () -> x.item(3, 2));
    t.illegalArgument(x, "what", () -> x.item(2, 2));
    t.illegalArgument(x, "what", () -> x.item(0, -1));
    t.due("items", x.items(), 3);
  }

  private static void name() {
    Plateroomprinter x = t.after("/0 -5 def /9 /2 def /3 [ 1 2 ] def");
    int[][] due = {{0, -5}, {NONE, 0}, {NONE, 0}, {2, 2}, {NONE, 0}, {NONE, 0}, {NONE, 0}, {NONE, 0}, {NONE, 0}, {1, 2}};
    for (int k = 0; k < 10; k++) {
      t.due("sort of " + k, x.name(k, 0), due[k][0]);
      t.due("value of " + k, x.name(k, 1), due[k][1]);
    }
    t.outOfBounds(x, "name", () -> x.name(10, 0));
    t.outOfBounds(x, "name", () -> x.name(-1, 0));
    t.outOfBounds(x, "name ahead of what", () -> x.name(10, 2));
    t.illegalArgument(x, "what", () -> x.name(1, 2));
    t.illegalArgument(x, "what", () -> x.name(0, -1));
  }

  private static void cost() {
    Plateroomprinter x = t.after("1 2 add", "2 [ 7 pop ] repeat pop");
    t.due("all", x.cost(0), 3 + 10);
    t.due("last", x.cost(1), 10);
    t.due("tokens", x.cost(2), 3 + 8);
    Checks.run(x, "1 2 3 div div div");
    t.due("a fault is not told", x.cost(0), 13);
    t.due("last", x.cost(1), 10);
    x.wipe();
    x.run();
    t.due("an empty one is", x.cost(1), 0);
    t.due("all", x.cost(0), 13);
    t.illegalArgument(x, "what", () -> x.cost(3));
    t.illegalArgument(x, "what", () -> x.cost(-1));
  }

  private static void done() {
    Plateroomprinter x = t.after("3 [ 1 2 add pop ] repeat 0 [ exit ] if", "1 2 add");
    t.due("add", x.done(0), 4);
    t.due("pop", x.done(10), 3);
    t.due("repeat", x.done(18), 1);
    t.due("if", x.done(16), 1);
    t.due("exit", x.done(20), 0);
    Checks.run(x, "1 2 add pop pop pop pop");
    t.due("a fault is not told", x.done(0), 4);
    t.due("the last order", t.after("page page").done(52), 2);
    t.outOfBounds(x, "order", () -> x.done(53));
    t.outOfBounds(x, "order", () -> x.done(-1));
  }

  private static void state() {
    Plateroomprinter x = t.after(
        "3 pen 1 cap 1 join 2 size 1 2 3 4 colour 1 1 5 5 box clip 2 3 4 5 box -4 -5 to 6 6 line save save");
    int[] due = {3, 1, 1, 2, 1, 2, 3, 4, 1, 96, 96, 2, 6, 25, 2};
    for (int k = 0; k < due.length; k++) {
      t.due("state " + k, x.state(k), due[k]);
    }
    t.illegalArgument(x, "what", () -> x.state(15));
    t.illegalArgument(x, "what", () -> x.state(-1));
    Checks.run(x, "-7 -8 to");
    t.due("x", x.state(9), -112);
    t.due("y", x.state(10), -128);
    Checks.run(x, "new");
    t.due("no point", x.state(8), 0);
    t.due("x", x.state(9), 0);
    t.due("y", x.state(10), 0);
  }

  private static void matrix() {
    Plateroomprinter x = t.after("2 4 -3 6 scale 1 3 slant 5 7 move");
    int[] due = {1, 2, 0, 1, 1, 6, -1, 2, 11, 3, -7, 2};
    for (int k = 0; k < 12; k++) {
      t.due("entry " + k / 2, x.matrix(k / 2, k % 2), due[k]);
    }
    t.outOfBounds(x, "entry", () -> x.matrix(6, 0));
    t.outOfBounds(x, "entry", () -> x.matrix(-1, 0));
    t.outOfBounds(x, "entry ahead of part", () -> x.matrix(6, 2));
    t.illegalArgument(x, "part", () -> x.matrix(5, 2));
    t.illegalArgument(x, "part", () -> x.matrix(0, -1));
  }

  private static void ringAndPoint() {
    Plateroomprinter x = t.after("1 1 2 3 box 5 6 to 7 8 line");
    t.ring(x, 0, 1, 16, 16, 48, 16, 48, 64, 16, 64);
    t.ring(x, 1, 0, 80, 96, 112, 128);
    t.outOfBounds(x, "ring", () -> x.ring(2, 0));
    t.outOfBounds(x, "ring", () -> x.ring(-1, 0));
    t.outOfBounds(x, "ring ahead of what", () -> x.ring(2, 2));
    t.illegalArgument(x, "what", () -> x.ring(1, 2));
    t.illegalArgument(x, "what", () -> x.ring(0, -1));
    t.outOfBounds(x, "ring", () -> x.point(2, 0, 0));
    t.outOfBounds(x, "ring", () -> x.point(-1, 0, 0));
    t.outOfBounds(x, "point", () -> x.point(0, 4, 0));
    t.outOfBounds(x, "point", () -> x.point(0, -1, 0));
    t.outOfBounds(x, "point", () -> x.point(1, 2, 0));
    t.outOfBounds(x, "point ahead of what", () -> x.point(1, 2, 2));
    t.illegalArgument(x, "what", () -> x.point(1, 1, 2));
    t.illegalArgument(x, "what", () -> x.point(0, 0, -1));
    Plateroomprinter y = new Plateroomprinter();
    t.outOfBounds(y, "no ring", () -> y.ring(0, 0));
    t.outOfBounds(y, "no ring", () -> y.point(0, 0, 0));
  }

  private static void form() {
    Plateroomprinter x = t.after("0 keep 1 1 2 3 box 5 6 to 7 8 line 4 keep");
    int[][] due = {{1, 0, 0}, {0, 0, 0}, {0, 0, 0}, {0, 0, 0}, {1, 2, 6}};
    for (int k = 0; k < 5; k++) {
      for (int n = 0; n < 3; n++) {
        t.due("form " + k, x.form(k, n), due[k][n]);
      }
    }
    t.outOfBounds(x, "form", () -> x.form(5, 0));
    t.outOfBounds(x, "form", () -> x.form(-1, 0));
    t.outOfBounds(x, "form ahead of what", () -> x.form(5, 3));
    t.illegalArgument(x, "what", () -> x.form(1, 3));
    t.illegalArgument(x, "what", () -> x.form(4, -1));
  }

  private static final String TWICE = "2 2 6 6 box 4 4 2 2 box ";

  private static void has() {
    Plateroomprinter x = t.after("9 9 2 2 box clip " + TWICE);
    t.yes("a dot", x.has(2, 2, 0));
    t.yes("a dot", x.has(7, 7, 1));
    t.no("none", x.has(8, 2, 0));
    t.no("none", x.has(2, 8, 1));
    t.no("in twice, by even", x.has(4, 5, 0));
    t.yes("in twice, by turns", x.has(4, 5, 1));
    t.no("far off", x.has(31, 31, 1));
    t.outOfBounds(x, "x", () -> x.has(32, 0, 0));
    t.outOfBounds(x, "x", () -> x.has(-1, 0, 0));
    t.outOfBounds(x, "y", () -> x.has(0, 32, 0));
    t.outOfBounds(x, "y", () -> x.has(0, -1, 0));
    t.outOfBounds(x, "y ahead of rule", () -> x.has(0, 32, 2));
    t.illegalArgument(x, "rule", () -> x.has(0, 0, 2));
    t.illegalArgument(x, "rule", () -> x.has(0, 0, -1));
    t.no("without a path", new Plateroomprinter().has(0, 0, 1));
  }

  private static void dotsAndMoved() {
    Plateroomprinter x = t.after("9 9 2 2 box clip " + TWICE);
    t.due("even", x.dots(0), 32);
    t.due("turns", x.dots(1), 36);
    t.illegalArgument(x, "rule", () -> x.dots(2));
    t.illegalArgument(x, "rule", () -> x.dots(-1));
    t.due("moved", x.moved(3, -2, 0), 32);
    t.due("moved", x.moved(24, 0, 1), 36);
    t.due("half off the page", x.moved(27, 0, 1), 18);
    t.due("half off the page", x.moved(0, -5, 1), 18);
    t.due("even", x.moved(27, 0, 0), 16);
    t.due("off the page", x.moved(-40, 40, 1), 0);
    t.due("off the page", x.moved(40, -40, 1), 0);
    t.due("the path stays", x.point(0, 0, 0), 32);
    t.illegalArgument(x, "dx", () -> x.moved(41, 0, 0));
    t.illegalArgument(x, "dx", () -> x.moved(-41, 0, 0));
    t.illegalArgument(x, "dy", () -> x.moved(0, 41, 0));
    t.illegalArgument(x, "dy", () -> x.moved(0, -41, 0));
    t.illegalArgument(x, "rule", () -> x.moved(0, 0, 2));
    t.illegalArgument(x, "rule", () -> x.moved(0, 0, -1));
    Plateroomprinter y = t.after("-10 -10 5 5 box");
    t.due("brought onto the page", y.moved(20, 20, 1), 25);
    Plateroomprinter z = t.after("-2000 -2000 4000 4000 box");
    t.due("moved beyond what a path may reach", z.moved(40, -40, 1) + z.moved(-40, 40, 0), 2048);
  }

  private static void inverse() {
    t.due("of a path", t.after(TWICE).inverse(), 1024 - 32);
    t.due("of none", new Plateroomprinter().inverse(), 1024);
    t.due("of all", t.after("-9 -9 90 90 box").inverse(), 0);
    Plateroomprinter x = t.after(TWICE);
    x.inverse();
    t.due("the path stays", x.state(11), 2);
  }

  private static void halves() {
    // A square of 6 by 6 dots, split from corner to corner.
    Plateroomprinter x = t.after("2 2 to 8 2 line 8 8 line 2 8 line 0 0 to");
    t.due("the ring", x.halves(0, 0, 2, 0), 36);
    t.due("first half", x.halves(0, 0, 2, 1), 21);
    t.due("second half", x.halves(0, 0, 2, 2), 15);
    t.due("both", x.halves(0, 0, 2, 3), 0);
    t.due("just one", x.halves(0, 0, 2, 4), 36);
    t.due("first half", x.halves(0, 1, 3, 1) + x.halves(0, 1, 3, 2), 36);
    t.due("nothing", x.halves(0, 0, 1, 1), 0);
    t.due("all", x.halves(0, 0, 1, 2), 36);
    t.due("all", x.halves(0, 0, 3, 1), 36);
    // Around the one half, and once more through it: both halves have what just one of them has not.
    Plateroomprinter y = t.after("2 2 to 8 2 line 8 8 line 2 8 line 2 2 line 6 2 line 6 6 line 2 6 line");
    t.due("ring", y.halves(0, 0, 4, 0), 20);
    t.due("first", y.halves(0, 0, 4, 1), 36);
    t.due("second", y.halves(0, 0, 4, 2), 16);
    t.due("both", y.halves(0, 0, 4, 3), 16);
    t.due("just one", y.halves(0, 0, 4, 4), 20);
    t.outOfBounds(x, "ring", () -> x.halves(2, 0, 2, 0));
    t.outOfBounds(x, "ring", () -> x.halves(-1, 0, 2, 0));
    t.outOfBounds(x, "from", () -> x.halves(0, -1, 2, 0));
    t.outOfBounds(x, "from", () -> x.halves(0, 4, 2, 0));
    t.outOfBounds(x, "to", () -> x.halves(0, 0, 4, 0));
    t.outOfBounds(x, "to", () -> x.halves(0, 0, -1, 0));
    t.outOfBounds(x, "to", () -> x.halves(1, 0, 1, 0));
    t.outOfBounds(x, "ahead of what", () -> x.halves(0, 0, 4, 5));
    t.illegalArgument(x, "to not above from", () -> x.halves(0, 0, 0, 0));
    t.illegalArgument(x, "to not above from", () -> x.halves(0, 2, 2, 0));
    t.illegalArgument(x, "to not above from", () -> x.halves(0, 2, 1, 0));
    t.illegalArgument(x, "what", () -> x.halves(0, 0, 2, 5));
    t.illegalArgument(x, "what", () -> x.halves(0, 0, 2, -1));
    largeHalves();
  }

  /** A RING around the whole page, one with the most points, and one that comes just to the MIDDLES. */
  private static void largeHalves() {
    int[] due = {1024, 528, 496, 0, 1024};
    Plateroomprinter x = t.after("0 0 to 32 0 line 32 32 line 0 32 line");
    for (int what = 0; what <= 4; what++) {
      t.due("half of the page " + what, x.halves(0, 0, 2, what), due[what]);
    }
    Plateroomprinter y = t.after("0 0 to 59 [ 0 1 lineby ] repeat 1 0 lineby 59 [ 0 -1 lineby ] repeat");
    t.due("120 points", y.ring(0, 0), 120);
    t.due("a column", y.halves(0, 0, 119, 0), 32);
    t.due("all of them", y.halves(0, 0, 119, 1), 32);
    t.due("two of them", y.halves(0, 0, 119, 2), 0);
    t.due("the lower part", y.halves(0, 16, 103, 1), 16);
    t.due("the upper part", y.halves(0, 16, 103, 2), 16);
    t.outOfBounds(y, "no point of it", () -> y.halves(0, 0, 120, 0));
    Plateroomprinter z = t.after("1 16 1 16 scale 8 8 to 24 8 line 24 24 line 8 24 line");
    for (int what = 0; what <= 4; what++) {
      t.due("one dot " + what, z.halves(0, 0, 2, what), what < 2 || what == 4 ? 1 : 0);
    }
    Plateroomprinter none = t.after("1 16 1 16 scale 9 9 to 24 9 line 24 24 line 9 24 line");
    for (int what = 0; what <= 4; what++) {
      t.due("no dot " + what, none.halves(0, 0, 2, what), 0);
    }
  }

  private static void figure() {
    Plateroomprinter x = t.after("1 2 3 4 colour 2 2 6 6 box 20 20 to fill 9 grey 1 1 to 5 1 line 5 5 line 1 cap 2 pen stroke");
    int[][] due = {{36, 1, 5, 1, 2, 3, 4}, {19, 4, 16, 0, 0, 0, 9}};
    for (int k = 0; k < 2; k++) {
      for (int n = 0; n < 7; n++) {
        t.due("figure " + k + ", " + n, x.figure(k, n), due[k][n]);
      }
    }
    t.due("figures", x.figures(), 2);
    t.outOfBounds(x, "figure", () -> x.figure(2, 0));
    t.outOfBounds(x, "figure", () -> x.figure(-1, 0));
    t.outOfBounds(x, "figure ahead of what", () -> x.figure(2, 7));
    t.illegalArgument(x, "what", () -> x.figure(1, 7));
    t.illegalArgument(x, "what", () -> x.figure(0, -1));
  }

  private static void last() {
    Plateroomprinter x = t.after("0 0 4 4 box fill 2 2 4 4 box fill 0 0 to fill 0 grey 3 3 2 2 box fill");
    t.due("the first", x.last(0, 0), 0);
    t.due("the second", x.last(2, 2), 1);
    t.due("the fourth", x.last(3, 3), 3);
    t.due("none", x.last(6, 6), NONE);
    t.due("none", x.last(31, 31), NONE);
    t.outOfBounds(x, "x", () -> x.last(32, 0));
    t.outOfBounds(x, "x", () -> x.last(-1, 0));
    t.outOfBounds(x, "y", () -> x.last(0, 32));
    t.outOfBounds(x, "y", () -> x.last(0, -1));
    Checks.run(x, "page");
    t.due("an empty list", x.last(3, 3), NONE);
  }

  private static void dotRowCount() {
    Plateroomprinter x = t.after("16 0 16 0 colour 31 30 1 2 box fill 0 16 0 16 colour 0 0 3 1 box fill");
    t.due("dot", x.dot(31, 31), 5);
    t.due("dot", x.dot(0, 0), 10);
    t.due("dot", x.dot(3, 0), 0);
    t.due("row", x.row(0, 31), Integer.MIN_VALUE);
    t.due("row", x.row(1, 0), 7);
    t.due("row", x.row(2, 29), 0);
    t.due("row", x.row(3, 31), 0);
    t.due("count", x.count(0), 2);
    t.due("count", x.count(3), 3);
    t.outOfBounds(x, "x", () -> x.dot(32, 0));
    t.outOfBounds(x, "x", () -> x.dot(-1, 0));
    t.outOfBounds(x, "y", () -> x.dot(0, 32));
    t.outOfBounds(x, "y", () -> x.dot(0, -1));
    t.outOfBounds(x, "plate", () -> x.row(4, 0));
    t.outOfBounds(x, "plate", () -> x.row(-1, 0));
    t.outOfBounds(x, "y", () -> x.row(0, 32));
    t.outOfBounds(x, "y", () -> x.row(0, -1));
    t.outOfBounds(x, "plate", () -> x.count(4));
    t.outOfBounds(x, "plate", () -> x.count(-1));
  }

  private static void bands() {
    Plateroomprinter x = t.after("0 0 20 20 box fill 5 grey 3 3 20 20 box fill 9 9 to 5 size 3 3 0 0 colour 8 show",
        "whole 1 1 9 31 box evenclip 16 grey 0 0 to 31 31 line 0 31 line fill");
    for (int height = 1; height <= 32; height++) {
      t.yes("bands of " + height, x.bands(height));
    }
    t.illegalArgument(x, "height", () -> x.bands(0));
    t.illegalArgument(x, "height", () -> x.bands(33));
    t.illegalArgument(x, "height", () -> x.bands(-1));
    Checks.run(x, "page");
    t.yes("an empty page", x.bands(5));
  }

  private static void runsAre(Plateroomprinter x, int plate, int... due) {
    t.due("runs", x.runs(plate), due.length);
    for (int k = 0; k < due.length; k++) {
      t.due("number " + k, x.runAt(plate, k), due[k]);
    }
    t.outOfBounds(x, "place", () -> x.runAt(plate, due.length));
    t.outOfBounds(x, "place", () -> x.runAt(plate, -1));
  }

  private static void runs() {
    runsAre(new Plateroomprinter(), 0, 99, 0, 99, 0, 99, 0, 99, 0, 99, 0, 99, 0, 99, 0, 99, 0, 99, 0, 99, 0, 34);
    runsAre(t.after("0 0 32 32 box fill"), 3,
        0, 99, 0, 99, 0, 99, 0, 99, 0, 99, 0, 99, 0, 99, 0, 99, 0, 99, 0, 99, 0, 34);
    Plateroomprinter x = t.after("0 0 32 3 box fill 0 3 3 1 box fill 7 31 25 1 box fill");
    runsAre(x, 3, 0, 99, 99, 0, 99, 0, 99, 0, 99, 0, 99, 0, 99, 0, 99, 0, 99, 0, 99, 0, 9, 25);
    x = t.after("0 0 32 3 box fill 0 3 4 1 box fill 10 3 1 1 box fill");
    t.due("a hundred", x.runAt(3, 0) + x.runAt(3, 1), 99);
    t.due("its zero", x.runAt(3, 2), 0);
    t.due("its rest", x.runAt(3, 3), 1);
    t.due("off", x.runAt(3, 4), 6);
    t.due("on", x.runAt(3, 5), 1);
    Plateroomprinter y = new Plateroomprinter();
    t.outOfBounds(y, "plate", () -> y.runs(4));
    t.outOfBounds(y, "plate", () -> y.runs(-1));
    t.outOfBounds(y, "plate", () -> y.runAt(4, 0));
    t.outOfBounds(y, "plate", () -> y.runAt(-1, 0));
    // Every other dot is a number of its own.
    Plateroomprinter z = t.after("16 [ 0 0 1 32 box 2 0 move ] repeat fill");
    t.due("most runs", z.runs(3), 1025);
    t.due("the last one", z.runAt(3, 1024), 1);
    t.outOfBounds(z, "behind it", () -> z.runAt(3, 1025));
  }

  private static void page() {
    Plateroomprinter x = new Plateroomprinter();
    t.due("no last page", x.lastDot(3, 3), NONE);
    t.due("none", x.page(5), 0);
    Checks.run(x, "16 0 0 0 colour 0 0 4 4 box fill 0 16 16 0 colour 3 3 2 1 box fill 0 0 0 0 colour 0 0 2 1 box fill page");
    int[] due = {1, 16 - 1 - 2, 2, 2, 0, 16 + 1 - 2};
    for (int k = 0; k < 6; k++) {
      t.due("page " + k, x.page(k), due[k]);
    }
    t.due("dot", x.lastDot(3, 3), 6);
    t.due("dot", x.lastDot(2, 2), 1);
    t.due("dot", x.lastDot(0, 0), 0);
    t.due("dot", x.lastDot(31, 31), 0);
    t.outOfBounds(x, "x", () -> x.lastDot(32, 0));
    t.outOfBounds(x, "x", () -> x.lastDot(-1, 0));
    t.outOfBounds(x, "y", () -> x.lastDot(0, 32));
    t.outOfBounds(x, "y", () -> x.lastDot(0, -1));
    t.illegalArgument(x, "what", () -> x.page(6));
    t.illegalArgument(x, "what", () -> x.page(-1));
    for (int plate = 0; plate < 4; plate++) {
      String amounts = "0 ".repeat(plate) + "16 " + "0 ".repeat(3 - plate);
      Plateroomprinter z = t.after(amounts + "colour 2 2 3 3 box fill page");
      t.due("dots with a colour", z.page(5), 9);
      t.due("dots on the plate", z.page(plate + 1), 9);
      t.due("colour", z.lastDot(4, 4), 1 << plate);
    }
    Plateroomprinter y = new Plateroomprinter();
    t.outOfBounds(y, "also without one", () -> y.lastDot(32, 0));
  }

  private static void sound() {
    t.yes("a new one", new Plateroomprinter().isSound());
    Plateroomprinter x = t.after(ALL, TWICE + "1 1 to 20 3 line 3 20 line 20 20 line 9 0 line");
    long digest = x.digest();
    t.yes("sound", x.isSound());
    t.due("nothing is changed", x.digest(), digest);
    Checks.run(x, "div");
    t.yes("with a fault", x.isSound());
  }

  private static long told;

  private static void tell(long... values) {
    for (long v : values) {
      told = told * 31 + v;
    }
  }

  /** The checksum once more, from the answers of all other calls. */
  private static long digestOf(Plateroomprinter x) {
    told = 6405;
    tell(x.tokens());
    for (int k = 0; k < x.tokens(); k++) {
      tell(x.tokenAt(k, 0), x.tokenAt(k, 1));
    }
    tell(x.fault(0), x.fault(1), x.fault(2), x.items());
    for (int k = 0; k < x.items(); k++) {
      tell(x.item(k, 0), x.item(k, 1));
    }
    for (int k = 0; k < 10; k++) {
      tell(x.name(k, 0), x.name(k, 1));
    }
    tell(x.cost(0), x.cost(1), x.cost(2));
    for (int k = 0; k < 53; k++) {
      tell(x.done(k));
    }
    for (int k = 0; k < 15; k++) {
      tell(x.state(k));
    }
    for (int k = 0; k < 6; k++) {
      tell(x.matrix(k, 0), x.matrix(k, 1));
    }
    for (int k = 0; k < x.state(11); k++) {
      tell(x.ring(k, 0), x.ring(k, 1));
      for (int n = 0; n < x.ring(k, 0); n++) {
        tell(x.point(k, n, 0), x.point(k, n, 1));
      }
    }
    for (int k = 0; k < 5; k++) {
      tell(x.form(k, 0), x.form(k, 1), x.form(k, 2));
    }
    tell(x.dots(0), x.dots(1), x.inverse(), x.figures());
    for (int k = 0; k < x.figures(); k++) {
      for (int n = 0; n < 7; n++) {
        tell(x.figure(k, n));
      }
    }
    for (int plate = 0; plate < 4; plate++) {
      for (int y = 0; y < 32; y++) {
        tell(x.row(plate, y));
      }
      tell(x.count(plate), x.runs(plate));
    }
    for (int k = 0; k < 6; k++) {
      tell(x.page(k));
    }
    tell(x.isSound() ? 1 : 0);
    return told;
  }

  private static void digest() {
    Plateroomprinter x = new Plateroomprinter();
    t.due("of a new one", x.digest(), digestOf(x));
    String[] texts = {ALL, TWICE + "1 1 to 20 3 line 3 20 line", "1 0 div", "1 2 4 5", "0 0 to 1 keep 15 1 set page", "]"};
    for (String text : texts) {
      Plateroomprinter y = t.after("5 /3 6 def 7 7 to");
      Checks.write(y, text);
      y.run();
      t.due("behind the run of " + text, y.digest(), digestOf(y));
    }
    for (int k = 1; k < texts.length; k++) {
      Plateroomprinter y = new Plateroomprinter();
      Checks.write(y, texts[k]);
      t.due("ahead of the run of " + texts[k], y.digest(), digestOf(y));
    }
    x.knock();
    long d = x.digest();
    x.knock();
    t.due("the refused are not told", x.digest(), d);
  }

  /** The dots in the corners of the page are the last ones that each call takes. */
  private static void corners() {
    Plateroomprinter x = t.after("16 16 16 16 colour 0 0 32 32 box fill page 0 0 32 32 box fill 0 0 32 32 box");
    for (int corner = 0; corner < 4; corner++) {
      int cx = corner % 2 * 31;
      int cy = corner / 2 * 31;
      t.yes("has, even", x.has(cx, cy, 0));
      t.yes("has, turns", x.has(cx, cy, 1));
      t.due("last", x.last(cx, cy), 0);
      t.due("dot", x.dot(cx, cy), 15);
      t.due("last dot", x.lastDot(cx, cy), 15);
      t.due("row", x.row(corner, cy), -1);
      t.due("count", x.count(corner), 1024);
    }
    int[][] beyond = {{-1, 0}, {0, -1}, {32, 31}, {31, 32}, {Integer.MIN_VALUE, 0}, {0, Integer.MAX_VALUE}};
    for (int[] b : beyond) {
      t.outOfBounds(x, "has", () -> x.has(b[0], b[1], 0));
      t.outOfBounds(x, "has, ahead of rule", () -> x.has(b[0], b[1], 2));
      t.outOfBounds(x, "last", () -> x.last(b[0], b[1]));
      t.outOfBounds(x, "dot", () -> x.dot(b[0], b[1]));
      t.outOfBounds(x, "last dot", () -> x.lastDot(b[0], b[1]));
    }
    for (int d = 39; d <= 40; d++) {
      for (int rule = 0; rule < 2; rule++) {
        t.due("moved off", x.moved(d, 0, rule) + x.moved(-d, 0, rule) + x.moved(0, d, rule) + x.moved(0, -d, rule), 0);
      }
    }
    t.due("a column left", x.moved(31, 0, 1) + x.moved(-31, 0, 0), 64);
    t.due("a row left", x.moved(0, 31, 0) + x.moved(0, -31, 1), 64);
    t.due("none left", x.moved(32, 0, 1) + x.moved(0, -32, 0), 0);
  }

  /** Who is refused an argument is no stranger that wants to print. */
  private static void refusedCallsAreNotCounted() {
    Plateroomprinter x = new Plateroomprinter();
    t.due("knock", x.knock(), 1);
    t.illegalArgument(x, "token", () -> x.token(6, 0));
    t.illegalState(x, "drop", x::drop);
    t.outOfBounds(x, "item", () -> x.item(0, 0));
    t.due("a run with a fault", Checks.run(x, "pop"), 1);
    t.due("fresh", x.fresh(), 0);
    t.due("wipe", x.wipe(), 1);
    t.due("knock", x.knock(), 2);
  }
}
