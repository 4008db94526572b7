/** What DOC.md's sections 1 and 2 name as bounds, in their order: just inside, on it, and just beyond it. */
public final class TokenBoundsTest {
  private static final int UNDER = 1;
  private static final int KIND = 2;
  private static final int RANGE = 3;
  private static final int ZERO = 4;
  private static final int NAME = 5;
  private static final int BRACE = 6;
  private static final int DEEP = 7;
  private static final int FULL = 8;
  private static final int LOOP = 10;
  private static final int BOUND = 11;
  private static final Checks t = new Checks();

  public static void main(String[] args) {
    numbersOfTokens();
    mostTokens();
    longestProgram();
    mostItems();
    bothPlacesOfTheBraces();
    mostRows();
    rowsAtTheirEnds();
    mostCost();
    costOfRounds();
    costOfDots();
    faultAtFirstAndLater();
    refusedRunChangesNothing();
    operandsAheadOfValues();
    resultsInBounds();
    quotients();
    comparisons();
    itemsBelow();
    conditions();
    rounds();
    roundsOverNumbers();
    exits();
    t.end();
  }

  private static String repeated(String text, int times) {
    return Checks.repeated(text, times);
  }

  private static String number(int n) {
    return Checks.number(n);
  }

  // ---- section 1

  /** Each KIND, and the least and the greatest number that it has. */
  private static final int[][] KINDS = {{0, -9999, 9999}, {1, 0, 52}, {2, 0, 9}, {3, 0, 9}, {4, 0, 0}, {5, 0, 0}};

  private static void numbersOfTokens() {
    for (int[] kind : KINDS) {
      for (int number : new int[] {kind[1], Math.min(kind[1] + 1, kind[2]), Math.max(kind[1], kind[2] - 1), kind[2]}) {
        takes(kind[0], number);
      }
      for (int number : new int[] {kind[1] - 1, kind[2] + 1, Integer.MIN_VALUE, Integer.MAX_VALUE}) {
        refuses(kind[0], number);
      }
    }
    for (int kind : new int[] {-1, 6, Integer.MIN_VALUE, Integer.MAX_VALUE}) {
      refuses(kind, 0);
    }
  }

  private static void takes(int kind, int number) {
    String what = kind + " " + number;
    Plateroomprinter x = new Plateroomprinter();
    t.due("token " + what, x.token(kind, number), 1);
    t.due("three " + what, x.three(kind, number, kind, number, kind, number), 4);
    for (int place = 0; place < 4; place++) {
      t.due("kind of " + what, x.tokenAt(place, 0), kind);
      t.due("number of " + what, x.tokenAt(place, 1), number);
    }
    t.due("drop " + what, x.drop(), kind);
  }

  private static void refuses(int kind, int number) {
    Plateroomprinter x = new Plateroomprinter();
    x.token(0, 7);
    String what = kind + " " + number;
    t.illegalArgument(x, "token " + what, () -> x.token(kind, number));
    t.illegalArgument(x, "first of three " + what, () -> x.three(kind, number, 0, 1, 0, 1));
    t.illegalArgument(x, "second of three " + what, () -> x.three(0, 1, kind, number, 0, 1));
    t.illegalArgument(x, "third of three " + what, () -> x.three(0, 1, 0, 1, kind, number));
  }

  private static Plateroomprinter withTokens(int many) {
    Plateroomprinter x = new Plateroomprinter();
    for (int k = 0; k + 3 <= many; k += 3) {
      x.three(0, k, 0, k + 1, 0, k + 2);
    }
    for (int k = many - many % 3; k < many; k++) {
      x.token(0, k);
    }
    t.due("tokens", x.tokens(), many);
    return x;
  }

  private static void mostTokens() {
    t.due("three behind 396", withTokens(396).three(0, 1, 0, 2, 0, 3), 399);
    t.due("three behind 397", withTokens(397).three(0, 1, 0, 2, 0, 3), 400);
    t.due("token 399", withTokens(398).token(0, 1), 399);
    t.due("token 400", withTokens(399).token(0, 1), 400);
    for (int many = 398; many <= 400; many++) {
      Plateroomprinter x = withTokens(many);
      t.illegalState(x, "three behind " + many, () -> x.three(0, 1, 0, 2, 0, 3));
      t.illegalArgument(x, "a wrong one behind " + many, () -> x.three(0, 1, 0, 2, 0, 10000));
      t.due("the last one", x.tokenAt(many - 1, 1), many - 1);
    }
    Plateroomprinter x = withTokens(400);
    t.illegalState(x, "token 401", () -> x.token(0, 1));
    t.illegalArgument(x, "token 401, a wrong one", () -> x.token(6, 0));
    t.outOfBounds(x, "the place behind the last one", () -> x.tokenAt(400, 0));
    t.due("drop", x.drop(), 0);
    t.due("one more again", x.token(5, 0), 400);
    t.due("wipe", x.wipe(), 400);
    t.illegalState(x, "drop behind a wipe", x::drop);
    t.due("and anew", x.token(0, 1), 1);
    t.due("drop to the last one", x.drop(), 0);
    t.illegalState(x, "drop of none", x::drop);
    t.due("wipe of none", x.wipe(), 0);
  }

  private static void longestProgram() {
    Plateroomprinter x = new Plateroomprinter();
    for (int k = 0; k < 400; k++) {
      x.token(1, k == 0 ? 13 : 27);
    }
    t.due("a run of 400 tokens", x.run(), 0);
    t.due("its cost", x.cost(1), 400);
    t.due("nothing is left", x.tokens(), 0);
    Plateroomprinter y = new Plateroomprinter();
    for (int k = 0; k < 400; k++) {
      y.token(1, k == 399 ? 10 : 27);
    }
    t.due("a run with a fault at the last one", y.run(), UNDER);
    t.due("its place", y.fault(1), 399);
    t.due("all are left", y.tokens(), 400);
  }

  /** "The PILE has at most 40 ITEMS"; "What is put on a full PILE: FULL". */
  private static void mostItems() {
    String names = "/0 7 def /1 /2 def /3 [ ] def ";
    for (String way : new String[] {"5", "/5", "[ 5 ]", "[ ]", "@0", "@1", "dup", "count"}) {
      t.due("39 with " + way, t.after(names + repeated("3", 38) + way).items(), 39);
      t.due("40 with " + way, t.after(names + repeated("3", 39) + way).items(), 40);
      t.fault(FULL, names + repeated("3", 40) + "!" + way);
    }
    // What puts no more than it took is not refused.
    for (String way : new String[] {"exch", "neg", "not", "@3", "pop dup", "pop 0 index", "pop 4"}) {
      t.due("40 with " + way, t.after(names + repeated("3", 40) + way).items(), 40);
    }
    t.fault(FULL, "/4 [ ?8 ] def " + repeated("3", 40) + "!@4");
    t.due("none is left", t.after(repeated("3", 40) + repeated("pop", 40)).items(), 0);
    t.fault(UNDER, repeated("3", 40) + repeated("pop", 40) + "!pop");
    Plateroomprinter x = t.after(repeated("3", 40));
    t.due("the lowest item", x.item(39, 1), 3);
    t.outOfBounds(x, "below it", () -> x.item(40, 0));
  }

  private static void bothPlacesOfTheBraces() {
    t.due("nothing inside", t.after("[ ]").item(0, 1), 0);
    t.due("one inside", t.after("[ 7 ]").item(0, 1), 1);
    t.due("braces inside", t.after("[ [ ] [ [ ] ] ]").item(0, 1), 6);
    t.fault(BRACE, "![");
    t.fault(BRACE, "[ ] ![");
    t.fault(BRACE, "![ [ ]");
    t.fault(BRACE, "!]");
    t.fault(BRACE, "[ ] !]");
    t.fault(BRACE, "[ [ ] ] !] [ ]");
    // It is the first one that is met: a CLOSE that is missing is not looked for ahead of its OPEN.
    t.fault(UNDER, "!pop [");
    t.fault(BRACE, repeated("3", 40) + "![");
    // A CLOSE that went is none, be it dropped, wiped, or one of a program that ran.
    Plateroomprinter y = new Plateroomprinter();
    Checks.write(y, "[ 1 ]");
    t.due("drop", y.drop(), 5);
    t.due("a run without the close", y.run(), BRACE);
    t.due("its place", y.fault(1), 0);
    t.due("wipe", y.wipe(), 2);
    Checks.write(y, "1 2 ]");
    t.due("wipe", y.wipe(), 3);
    t.fault(y, BRACE, "1 ![");
    t.due("a run", Checks.run(y, "5 [ 6 ]"), 0);
    t.fault(y, BRACE, "![ 6");
    Plateroomprinter x = new Plateroomprinter();
    for (int k = 0; k < 200; k++) {
      x.token(4, 0);
    }
    for (int k = 0; k < 200; k++) {
      x.token(5, 0);
    }
    t.due("as many braces as there can be", x.run(), 0);
    t.due("their tokens", x.item(0, 1), 398);
  }

  /** So many rows inside each other, the words being done in the innermost one. */
  private static String nested(int rows, String words) {
    return repeated("[", rows) + words + " " + repeated("] do", rows);
  }

  private static void innermost(int fault, String prefix, int rows, String words) {
    String text = nested(rows, words).trim();
    t.fault(fault, prefix + text.substring(0, text.length() - 2) + "!do");
  }

  /** "the PROGRAM and at most 11 more; with a further one: DEEP". */
  private static void mostRows() {
    String name = "/3 [ ] def /4 7 def ";
    String[] ways = {"?@3", "[ ] ?do", "1 [ ] ?if", "1 [ ] [ ] ?ifelse", "0 [ ] [ ] ?ifelse", "1 [ ] ?repeat",
        "1 1 1 [ ] ?for"};
    for (String way : ways) {
      t.due("ten rows and " + way, t.after(name + nested(9, way.replace("?", ""))).state(8), 0);
      t.due("eleven rows and " + way, t.after(name + nested(10, way.replace("?", ""))).state(8), 0);
      innermost(DEEP, name, 11, way);
    }
    // Without a row to be done there is none too many.
    for (String way : new String[] {"@4", "0 [ ] if", "0 [ ] repeat", "2 1 1 [ ] for", "1 -1 2 [ ] for", "[ ]"}) {
      t.due("twelve rows and " + way, t.after(name + nested(11, way)).state(8), 0);
    }
    // The operands and their values come first.
    innermost(KIND, "", 11, "5 ?do");
    innermost(UNDER, "", 11, "[ ] ?if");
    innermost(RANGE, "", 11, "100 [ ] ?repeat");
    innermost(RANGE, "", 11, "1 0 1 [ ] ?for");
    innermost(DEEP, repeated("3", 28), 11, "1 1 1 [ ] ?for");
  }

  /** "A row whose last TOKEN is done is still there till the next TOKEN is looked for". */
  private static void rowsAtTheirEnds() {
    String down = "/0 [ dup 0 eq [ ] [ 1 sub @0 ] ifelse ] def ";
    t.pile(down + "4 @0", 0);
    String deeper = "/0 [ dup 0 eq [ ] [ 1 sub @0 ] ?ifelse ] def ";
    t.fault(DEEP, deeper + "5 !@0");
    // They are gone for the next TOKEN, the empty ones too.
    t.pile(nested(11, "1") + nested(11, "2"), 1, 2);
    t.pile(nested(5, nested(6, "1") + nested(6, "2")), 1, 2);
    t.pile(nested(10, "[ ] do [ ] do [ 1 ] do"), 1);
    t.pile(nested(9, "2 [ [ 1 ] do ] repeat"), 1, 1);
    innermost(DEEP, "", 10, "2 [ [ 1 ] ?do ] repeat");
    t.pile(nested(9, "1 [ [ exit ] do ] repeat [ [ 5 ] do ] do"), 5);
  }

  /** Words that cost just so much and leave nothing on the PILE. */
  private static String spend(int cost) {
    StringBuilder s = new StringBuilder();
    int rest = cost;
    for (; rest >= 1030; rest -= 1030) {
      s.append("0 0 32 32 box fill ");
    }
    while (rest >= 6) {
      int rounds = Math.min(95, (rest - 3) / 3);
      s.append(rounds).append(" [ 1 pop ] repeat ");
      rest -= 3 + 3 * rounds;
    }
    return s + repeated("new", rest);
  }

  private static void costs(String text, int cost) {
    t.due("cost of " + text, t.after(text).cost(1), cost);
  }

  /** Whatever the last bit is spent on: "If the COST of the RUN is above 5000 behind a TOKEN: BOUND at it". */
  private static void mostCost() {
    costs(spend(4999), 4999);
    costs(spend(5000), 5000);
    String[] ways = {"!1", "!/3", "![ 1 2 3 ]", "[ ] !do", "/0 7 def !@0", "/0 [ ] def !@0", "0 [ ] !repeat",
        "1 [ ] !repeat", "1 1 1 [ ] !for", "2 1 1 [ ] !for", "0 0 1 1 box !fill", "0 0 1 1 box !evenfill",
        "0 0 1 1 box !clip", "1 1 to 1 !image", "1 1 to 0 !image", "0 grey 0 0 3 1 box !fill", "1 1 to 1 !show", "!page"};
    for (String way : ways) {
      String plain = way.replace("!", "");
      int cost = t.after(plain).cost(1);
      costs(spend(4999 - cost) + plain, 4999);
      costs(spend(5000 - cost) + plain, 5000);
      t.fault(BOUND, spend(5001 - cost) + way);
    }
    // A fault of the TOKEN itself is ahead of it.
    t.fault(UNDER, spend(5000) + "!pop");
    t.fault(NAME, spend(5000) + "!@9");
    t.fault(BOUND, spend(4998) + "[ ?new ] !do");
  }

  /** "the first round of a loop begins with the loop's ORDER and is found behind that; a later one ..". */
  private static void costOfRounds() {
    costs("1 [ ] repeat", 3 + 1);
    costs("99 [ ] repeat", 3 + 99);
    costs("1 1 2 [ ] for", 5 + 2);
    costs("3 [ 5 pop ] repeat", 3 + 3 * 3);
    costs(spend(4995) + "2 [ ] repeat", 5000);
    costs(spend(4996) + "2 [ ] repeat", 5001);
    costs(spend(4996) + "99 [ ] repeat", 4996 + 3 + 99);
    costs(spend(4994) + "1 1 2 [ ] for", 5001);
    t.fault(BOUND, spend(4997) + "99 [ ] !repeat");
    t.fault(BOUND, spend(4995) + "1 1 2 [ ] !for");
    costs(spend(4994) + "2 [ ] repeat new", 5000);
    t.fault(BOUND, spend(4995) + "2 [ ] repeat !new");
    t.fault(BOUND, spend(4996) + "2 [ ] repeat !new");
    costs(spend(4993) + "2 [ new ] repeat", 5000);
    t.fault(BOUND, spend(4994) + "2 [ ?new ] !repeat");
    t.fault(BOUND, spend(4995) + "2 [ ?new ] !repeat");
  }

  /** "each dot of a FIGURE that is PAINTED 1 (whether it changes or not)". */
  private static void costOfDots() {
    costs("0 0 1 1 box fill", 6 + 1);
    costs("fill", 1);
    costs("0 0 32 32 box fill", 6 + 1024);
    costs("-9 -9 90 90 box fill", 6 + 1024);
    costs("32 0 9 9 box fill", 6);
    costs("0 0 2 2 box fill 0 0 2 2 box fill", 2 * (6 + 4));
    costs("0 grey 0 0 2 2 box fill", 2 + 6 + 4);
    costs("0 0 4 4 box 2 2 4 4 box fill", 11 + 28);
    costs("0 0 4 4 box 2 2 4 4 box evenfill", 11 + 24);
    costs("0 0 4 4 box clip", 6);
    costs("0 0 4 4 box clip 2 2 4 4 box fill", 6 + 6 + 4);
    costs("1 1 to 4095 image", 5 + 12);
    // A bar and the squares of its caps share dots: each is one dot of the one FIGURE.
    costs("4 4 to 8 4 line 2 pen 1 cap stroke", 6 + 4 + 1 + 12);
    costs("0 0 4 4 box fill page", 6 + 16 + 1);
    t.due("a run of nothing", t.after("").cost(1), 0);
  }

  private static void faultIs(Plateroomprinter x, int code, int place, int ownPlace) {
    t.due("code", x.fault(0), code);
    t.due("place", x.fault(1), place);
    t.due("own place", x.fault(2), ownPlace);
  }

  /** "A RUN without one empties the PROGRAM; FAULT is 0, NONE, NONE". */
  private static void faultAtFirstAndLater() {
    Plateroomprinter x = new Plateroomprinter();
    faultIs(x, 0, -1, -1);
    t.due("a run of nothing", x.run(), 0);
    faultIs(x, 0, -1, -1);
    t.due("a fault at the place 0", Checks.run(x, "pop"), UNDER);
    faultIs(x, UNDER, 0, 0);
    x.drop();
    faultIs(x, UNDER, 0, 0);
    t.due("one behind it", Checks.run(x, "1 2 [ 3 0 div ] do"), ZERO);
    faultIs(x, ZERO, 7, 2);
    t.due("the same once more", x.run(), ZERO);
    faultIs(x, ZERO, 7, 2);
    x.wipe();
    t.due("a run of nothing", x.run(), 0);
    faultIs(x, 0, -1, -1);
    t.due("a fault", Checks.run(x, "1 exit"), LOOP);
    faultIs(x, LOOP, 1, 1);
    x.fresh();
    faultIs(x, 0, -1, -1);
    t.due("the program is left by both", x.tokens(), 2);
    // A round that begins: the place of the loop's ORDER, in the row in which it stands.
    t.due("a full pile", Checks.run(new Plateroomprinter(), "0 1 40 [ ] for"), FULL);
    t.fault(FULL, "5 6 [ 7 8 1 1 39 [ ] ?for ] !do");
    t.fault(FULL, "5 6 [ 7 [ 8 1 1 39 [ neg ] ?for ] do ] !do");
    t.fault(FULL, "0 1 40 [ neg ] !for");
  }

  /** "A RUN with a fault leaves all as it was ahead of it, but for FAULT", with each fault that there is. */
  private static void refusedRunChangesNothing() {
    String all = "1 /2 [ 3 ] /4 5 def 3 pen 2 3 move 1 1 9 9 box 2 keep fill page 2 2 9 9 box fill 5 5 to 6 6 line save";
    String changes = "pop pop pop /4 6 def /5 7 def 1 pen restore 0 0 2 2 box 2 keep 3 keep fill page 1 2 3 4 colour "
        + "4 4 to 30 show 2 2 3 3 box clip 3 turn 2 size 1 1 to 1 2 3 ";
    String[] faults = {"pop pop pop !pop", "/1 !neg", "9 !pen", "0 0 !div", "!@9", "!]", repeated("save", 8) + "!save",
        repeated("3", 37) + "!3", "new !close", "!exit", "whole 0 turn 99 [ 0 0 32 32 box ?fill ] !repeat"};
    for (int k = 0; k < faults.length; k++) {
      t.fault(t.after(all), k + 1, changes + faults[k]);
    }
    Plateroomprinter x = t.after(all);
    t.fault(x, KIND, changes + "/1 !neg");
    t.due("the run behind it", Checks.run(x, "do @4 restore 1 1 2 use"), 0);
    t.due("what the procedure put", x.item(1, 1), 3);
    t.due("what the name stands for", x.item(0, 1), 5);
    t.due("the pen that was kept", x.state(0), 3);
    t.ring(x, 0, 0, 112, 128, 128, 144);
    t.ring(x, 1, 1, 64, 80, 208, 80, 208, 224, 64, 224);
  }

  /** "operands from the top of the PILE, the last told one first: .. Then, if all are taken, .. their values". */
  private static void operandsAheadOfValues() {
    for (String text : new String[] {"0 !div", "0 !mod", "[ ] !repeat", "0 5 [ ] !for", "0 1 0 !scale", "0 !slant",
        "9999 !to", "9999 !line", "9999 !by", "9999 !lineby", "9999 1 1 1 1 !curve", "9999 1 1 !box", "17 17 17 !colour",
        "-1 !set", "9 5 !use", "9999 !move"}) {
      t.fault(UNDER, text);
      t.fault(KIND, "/1 " + text);
      t.fault(KIND, "[ ] " + text);
    }
    for (String text : new String[] {"!index", "!repeat", "!turn", "!pen", "!cap", "!join", "!size", "!show", "!image",
        "!grey", "!keep", "!add", "!line", "!use", "!def", "!set"}) {
      t.fault(UNDER, text);
    }
    // The top one alone is of another sort, and there is none below it.
    for (String text : new String[] {"/1 !add", "[ ] !lt", "5 !if", "5 !ifelse", "/1 !repeat", "5 !for", "[ ] !line",
        "/1 !use", "[ ] !set", "/1 !scale", "[ ] !colour", "/1 !box", "[ ] !curve", "/1 !slant", "[ ] !move"}) {
      t.fault(KIND, text);
    }
    t.fault(UNDER, "5 !def");
    t.fault(KIND, "5 /1 !def");
    t.fault(KIND, "[ ] 5 !def");
  }

  // ---- section 2

  private static void result(String order, int a, int b, int due) {
    t.pile(number(a) + " " + number(b) + " " + order, due);
  }

  private static void beyond(String order, int a, int b) {
    t.fault(RANGE, number(a) + " " + number(b) + " !" + order);
  }

  /** "numbers (-99999 to 99999)"; "a number beyond its bounds: RANGE". */
  private static void resultsInBounds() {
    for (int sign = -1; sign <= 1; sign += 2) {
      result("add", sign * 99998, 0, sign * 99998);
      result("add", sign * 99998, sign, sign * 99999);
      beyond("add", sign * 99999, sign);
      beyond("add", sign * 99999, sign * 99999);
      result("sub", sign * 99997, -sign, sign * 99998);
      result("sub", sign * 99998, -sign, sign * 99999);
      beyond("sub", sign * 99999, -sign);
      beyond("sub", sign * 99999, -sign * 99999);
      result("mul", sign * 49999, 2, sign * 99998);
      result("mul", sign * 33333, 3, sign * 99999);
      beyond("mul", sign * 50000, 2);
      beyond("mul", sign * 99999, 99999);
      beyond("mul", sign * 65536, 65536);
      result("div", sign * 99999, -1, -sign * 99999);
      result("mod", sign * 99998, 99999, sign < 0 ? 1 : 99998);
      t.pile(number(sign * 99999) + " neg", -sign * 99999);
    }
  }

  private static void quotients() {
    for (int a = -7; a <= 7; a++) {
      for (int b = -4; b <= 4; b++) {
        if (b != 0) {
          // What is divided is rounded towards 0; what is left is from 0 on, or up to 0.
          t.pile(a + " " + b + " div", a / b);
          int left = a - a / b * b;
          boolean otherSide = left != 0 && (left < 0) != (b < 0);
          t.pile(a + " " + b + " mod", otherSide ? left + b : left);
        }
      }
      t.fault(ZERO, a + " 0 !div");
      t.fault(ZERO, a + " 0 !mod");
    }
  }

  private static void comparisons() {
    for (int b : new int[] {-99999, -99998, -1, 0, 1, 99998, 99999}) {
      for (int a = Math.max(-99999, b - 1); a <= Math.min(99999, b + 1); a++) {
        result("eq", a, b, a == b ? 1 : 0);
        result("lt", a, b, a < b ? 1 : 0);
      }
      t.pile(number(b) + " not", b == 0 ? 1 : 0);
    }
  }

  /** "the ITEM n below the top, once more; RANGE if n is below 0, UNDER if there is none". */
  private static void itemsBelow() {
    t.fault(RANGE, "5 -1 !index");
    t.fault(RANGE, "-1 !index");
    t.fault(UNDER, "0 !index");
    for (int many : new int[] {1, 2, 39}) {
      StringBuilder pile = new StringBuilder();
      for (int k = 0; k < many; k++) {
        pile.append(100 + k).append(' ');
      }
      for (int n : new int[] {0, many - 1}) {
        t.due(n + " below the top", t.after(pile + "" + n + " index").item(0, 1), 100 + many - 1 - n);
      }
      t.fault(UNDER, pile + "" + many + " !index");
      t.fault(UNDER, pile + "9999 !index");
      t.fault(RANGE, pile + "-9999 !index");
    }
    t.pile("count", 0);
    t.due("39 of them", t.after(repeated("/1", 39) + "count").item(0, 1), 39);
  }

  private static void conditions() {
    for (int a = -1; a <= 1; a++) {
      t.pile(a + " [ 5 ] if 7", a == 0 ? new int[] {7} : new int[] {5, 7});
      t.pile(a + " [ 5 ] [ 6 ] ifelse 7", a == 0 ? 6 : 5, 7);
      t.pile(a + " [ ] if " + a + " [ ] [ ] ifelse");
    }
    t.pile("[ ] do [ 5 ] do", 5);
  }

  /** "RANGE if n is not 0 to 99"; "With 0 rounds, .. there is no row". */
  private static void rounds() {
    for (int n : new int[] {0, 1, 2, 98, 99}) {
      t.pile("0 " + n + " [ 1 add ] repeat", n);
    }
    for (int n : new int[] {-99999, -1, 100, 99999}) {
      t.fault(RANGE, number(n) + " [ 1 ] !repeat");
    }
    t.fault(LOOP, "0 [ ] repeat !exit");
    t.fault(LOOP, "1 [ ] repeat !exit");
  }

  private static void putsNumbers(int from, int step, int to, int... due) {
    t.pile(number(from) + " " + number(step) + " " + number(to) + " [ ] for", due);
  }

  /** "as long as it is not above to, with a step below 0 not below it; RANGE if step is 0". */
  private static void roundsOverNumbers() {
    putsNumbers(1, 1, 0);
    putsNumbers(1, 1, 1, 1);
    putsNumbers(1, 1, 2, 1, 2);
    putsNumbers(1, -1, 2);
    putsNumbers(1, -1, 1, 1);
    putsNumbers(1, -1, 0, 1, 0);
    putsNumbers(0, 3, 5, 0, 3);
    putsNumbers(0, 3, 6, 0, 3, 6);
    putsNumbers(0, 3, 7, 0, 3, 6);
    putsNumbers(0, -3, -5, 0, -3);
    putsNumbers(0, -3, -6, 0, -3, -6);
    putsNumbers(0, -3, -7, 0, -3, -6);
    putsNumbers(99998, 1, 99999, 99998, 99999);
    putsNumbers(-99998, -1, -99999, -99998, -99999);
    putsNumbers(-99999, 99999, 99999, -99999, 0, 99999);
    putsNumbers(99999, -99999, -99999, 99999, 0, -99999);
    putsNumbers(99999, 99999, 99999, 99999);
    for (int to = -1; to <= 1; to++) {
      t.fault(RANGE, "0 0 " + to + " [ ] !for");
    }
    t.fault(LOOP, "1 1 0 [ ] for !exit");
    t.due("40 rounds", t.after("1 1 40 [ ] for").items(), 40);
    t.fault(FULL, "1 1 41 [ ] !for");
    t.due("41 that are taken again", t.after("1 1 41 [ pop ] for").items(), 0);
  }

  /** "the innermost loop that is being done, and all rows in it, are gone; LOOP without one". */
  private static void exits() {
    t.fault(LOOP, "!exit");
    t.fault(LOOP, "[ ?exit ] !do");
    t.fault(LOOP, "1 [ ?exit ] !if");
    t.pile("1 [ exit 5 ] repeat 6", 6);
    t.pile("9 [ [ 1 [ exit 5 ] if 6 ] do 7 ] repeat 8", 8);
    t.pile("3 [ 1 3 [ exit ] repeat ] repeat", 1, 1, 1);
    t.pile("1 1 9 [ dup 3 eq [ exit ] if ] for", 1, 2, 3);
    t.pile("3 [ 5 1 1 9 [ exit ] for exit ] repeat", 5, 1);
    t.pile("[ 2 [ exit ] repeat 4 ] do 5", 4, 5);
    t.fault(LOOP, "2 [ exit ] repeat !exit");
    t.fault(LOOP, "[ 2 [ exit ] repeat ?exit ] !do");
    // As its last round's last TOKEN the loop is still being done.
    t.pile("1 [ 5 exit ] repeat 6", 5, 6);
    t.pile("1 [ [ exit ] do ] repeat 6", 6);
  }
}
