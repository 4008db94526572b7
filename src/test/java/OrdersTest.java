/** Promise 6, run: what DOC.md's sections 1 to 8 say of tokens, faults and orders. */
public final class OrdersTest {
  private static final int UNDER = 1;
  private static final int KIND = 2;
  private static final int RANGE = 3;
  private static final int ZERO = 4;
  private static final int NAME = 5;
  private static final int BRACE = 6;
  private static final int DEEP = 7;
  private static final int FULL = 8;
  private static final int POINT = 9;
  private static final int LOOP = 10;
  private static final int BOUND = 11;
  private static final Checks t = new Checks();

  public static void main(String[] args) {
    runsWithoutFault();
    rollback();
    tokensAndBraces();
    names();
    rowsInRows();
    costs();
    bounds();
    arithmetic();
    pileOrders();
    conditions();
    loops();
    exits();
    states();
    matrices();
    points();
    curves();
    closing();
    pathFaults();
    fills();
    clips();
    strokes();
    digits();
    digitsInWidth();
    colours();
    images();
    forms();
    pages();
    operands();
    t.end();
  }

  private static String repeated(String text, int times) {
    return Checks.repeated(text, times);
  }

  private static void runsWithoutFault() {
    Plateroomprinter x = new Plateroomprinter();
    t.due("an empty program", x.run(), 0);
    t.fault(x, ZERO, "5 0 !div");
    t.due("the fault stays", x.fault(0), ZERO);
    t.due("run", Checks.run(x, "1 2 add 7"), 0);
    t.due("code", x.fault(0), 0);
    t.due("place", x.fault(1), Checks.NONE);
    t.due("own place", x.fault(2), Checks.NONE);
    t.due("program", x.tokens(), 0);
    t.pileOf(x, "1 2 add 7", 3, 7);
    Checks.write(x, "3 pop pop pop pop");
    t.due("a run with a fault", x.run(), UNDER);
    t.due("keeps the program", x.tokens(), 5);
    t.due("once more", x.run(), UNDER);
    t.pileOf(x, "as ahead of it", 3, 7);
    x.drop();
    t.due("without the last token", x.run(), 0);
    t.due("pile", x.items(), 0);
  }

  /** A fault behind changes of all that there is. */
  private static void rollback() {
    String shapes = "1 1 2 2 box 0 keep 3 3 to 4 4 line 4 keep";
    String figures = "0 0 32 32 box fill 1 2 3 4 colour fill 5 6 7 8 colour 9 9 3 3 box fill 2 2 to 8 1 cap show 16 grey 4 4 9 9 box fill";
    String kept = "2 pen 5 5 to 6 6 line 3 1 3 1 scale 2 3 move save 4 pen 1 turn 0 0 9 9 box clip 7 8 to save";
    Plateroomprinter x = t.after("1 2 /3 [ 4 5 ]", "/0 5 def /9 [ 6 7 8 ] def", shapes, "page " + figures, kept);
    Plateroomprinter y = t.after("1 2 /3 [ 4 5 ]", "/0 5 def /9 [ 6 7 8 ] def", shapes, "page " + figures, kept);
    t.fault(x, UNDER, "pop pop pop pop /0 7 def /9 8 def /1 1 def whole 0 0 32 32 box fill 9 9 to 0 keep 1 keep 4 keep "
        + "restore new restore new 1 pen save save save page 0 grey 5 [ 0 0 32 32 box evenclip fill ] repeat "
        + "3 3 move 1 2 slant 1 cap 1 join 3 size restore !pop");
    String[] rest = {"do @9 @0", "0 0 0 use 0 0 4 use", "restore", "0 0 4 use 1 cap stroke", "restore", "6 show"};
    for (String text : rest) {
      t.due("run of " + text, Checks.run(x, text), Checks.run(y, text));
      x.wipe();
      y.wipe();
      x.run();
      y.run();
      t.due("all as if it had not been, behind " + text, x.digest(), y.digest());
      for (int k = 0; k < 16; k++) {
        t.due("last figure", x.last(k, 7 * k % 16), y.last(k, 7 * k % 16));
      }
    }
  }

  private static void tokensAndBraces() {
    Plateroomprinter x = t.after("7 /3 [ 1 [ 2 ] add ]");
    t.due("items", x.items(), 3);
    t.due("number", x.item(2, 0), 0);
    t.due("its value", x.item(2, 1), 7);
    t.due("name", x.item(1, 0), 1);
    t.due("its number", x.item(1, 1), 3);
    t.due("procedure", x.item(0, 0), 2);
    t.due("its tokens", x.item(0, 1), 5);
    t.pile("[ ] do 4", 4);
    t.fault(BRACE, "1 ![ 2 [ 3 ]");
    t.fault(BRACE, "1 2 !]");
    t.fault(BRACE, "[ 1 ] !]");
    t.due("40 items", t.after(repeated("0", 40)).items(), 40);
    t.fault(FULL, repeated("0", 40) + "!0");
    t.fault(FULL, repeated("0", 40) + "!/1");
    t.fault(FULL, repeated("0", 40) + "![ 1 ]");
    t.fault(BRACE, repeated("0", 40) + "![ 1");
    // The tokens of a procedure outlive the program they were written in, and many after it.
    Plateroomprinter y = t.after("/1 [ 11 12 add ] def", "[ 5 ]");
    for (int k = 0; k < 20; k++) {
      t.due("run", Checks.run(y, "1 2 3 add add pop"), 0);
    }
    t.due("run", Checks.run(y, "do @1"), 0);
    t.pileOf(y, "kept procedures", 5, 23);
  }

  private static void names() {
    t.pile("/1 5 def @1 @1", 5, 5);
    t.pile("/1 [ 2 3 ] def @1", 2, 3);
    t.pile("/1 5 def /1 6 def @1", 6);
    Plateroomprinter x = t.after("/1 /2 def @1");
    t.due("a name stands for a name", x.item(0, 0), 1);
    t.due("which is put", x.item(0, 1), 2);
    t.fault(NAME, "!@4");
    t.fault(NAME, "/4 !@4");
    t.fault(KIND, "5 6 !def");
    t.fault(UNDER, "6 !def");
    t.fault(UNDER, "!def");
    t.fault(FULL, "/0 7 def " + repeated("@0", 40) + "!@0");
  }

  private static void rowsInRows() {
    String open = repeated("[", 11);
    String close = repeated("] do", 11);
    // The program and eleven rows inside each other are all that there may be.
    t.pile(open + "7 " + close, 7);
    t.fault(DEEP, "[ " + open + "7 ] ?do " + repeated("] do", 10) + "] !do");
    t.fault(DEEP, "/0 [ ?@0 ] def !@0");
    t.fault(DEEP, "/0 [ 1 pop ?@0 3 ] def 1 !@0");
    String last = close.substring(0, close.length() - 3) + "!do";
    t.fault(DEEP, open + "0 [ ] if 1 [ ] ?if " + last);
    t.fault(DEEP, open + "1 [ ] [ ] ?ifelse " + last);
    t.fault(DEEP, open + "0 [ ] repeat 1 [ ] ?repeat " + last);
    t.fault(DEEP, open + "3 1 2 [ ] for 1 1 2 [ ] ?for " + last);
    // A row at its end goes as the next token is looked for.
    t.pile("/0 [ 1 ] def " + repeated("@0", 14), 1, 1, 1, 1, 1, 1, 1, 1, 1, 1, 1, 1, 1, 1);
    t.pile("14 [ [ 1 ] do ] repeat count", 1, 1, 1, 1, 1, 1, 1, 1, 1, 1, 1, 1, 1, 1, 14);
    t.fault(ZERO, "1 [ 1 add ] do 3 [ 4 div 0 ?div ] !do");
    t.fault(ZERO, "1 [ [ 2 0 ?div ] do ] !do");
  }

  private static void costs() {
    t.due("three tokens", t.after("1 2 add").cost(1), 3);
    t.due("a procedure", t.after("[ 1 2 3 4 ]").cost(1), 1);
    Plateroomprinter x = t.after("3 [ 1 2 ] repeat");
    t.due("a loop", x.cost(1), 3 + 3 * 3);
    t.due("its tokens", x.cost(2), 9);
    t.due("a loop over numbers", t.after("1 2 5 [ pop ] for").cost(1), 5 + 3 * 2);
    t.due("no rounds", t.after("0 [ 1 ] repeat 5 1 4 [ ] for").cost(1), 8);
    t.due("an exit", t.after("5 [ 7 exit 8 ] repeat").cost(1), 3 + 1 + 2);
    x = t.after("1 1 4 4 box fill");
    t.due("dots", x.cost(1), 6 + 16);
    t.due("of these tokens", x.cost(2), 6);
    // What an order had painted ahead of its fault is no cost of the next run.
    x = t.after("59 [ fill ] repeat");
    t.fault(x, FULL, "2 2 to 88 !show");
    t.due("run", Checks.run(x, "1"), 0);
    t.due("a token", x.cost(1), 1);
    t.due("dots that do not change", t.after("0 grey 1 1 4 4 box fill 1 1 4 4 box fill").cost(1), 14 + 32);
  }

  private static void bounds() {
    String pages = repeated("0 0 32 32 box fill", 4);
    String rest = "1 pop 35 [ " + repeated("1 pop", 12) + "] repeat ";
    Plateroomprinter x = t.after(pages + rest);
    t.due("just in the bounds", x.cost(1), 5000);
    t.fault(BOUND, pages + rest + "!1");
    t.fault(BOUND, "1 " + pages + "1 pop 35 [ " + repeated("1 pop", 11) + "1 ?pop ] !repeat");
    t.fault(BOUND, repeated("0 0 32 32 box fill", 4) + "0 0 32 32 box !fill");
    t.fault(BOUND, "5 [ 0 0 32 32 box ?fill ] !repeat");
    t.fault(BOUND, "99 [ ?99 [ ] repeat ] !repeat");
    t.fault(BOUND, pages + "99 [ 7 pop 7 pop 7 pop 7 ?pop 7 pop ] !repeat");
    // Later rounds that begin are found behind the next token only, and not at all without one.
    String near = pages + repeated("95 [ 1 pop ] repeat", 3) + repeated("0", 12);
    x = t.after(near + "9 [ ] repeat");
    t.due("beyond the bound at the end", x.cost(1), 4096 + 24 + 3 * 288 + 12 + 3 + 9);
    t.fault(BOUND, near + "9 [ ] repeat !1");
    t.fault(BOUND, near + "0 9 [ ] !repeat");
    // A fault of the order itself is ahead of it; an exit is found where it stands.
    t.fault(NAME, near + "9 [ ] repeat !@9");
    t.fault(BOUND, near + "9 [ ?exit ] !repeat");
  }

  private static void arithmetic() {
    t.pile("3 4 add 3 4 sub 3 4 mul", 7, -1, 12);
    t.pile("7 2 div -7 2 div 7 -2 div -7 -2 div", 3, -3, -3, 3);
    t.pile("7 3 mod -7 3 mod 7 -3 mod -7 -3 mod 6 -3 mod", 1, 2, -2, -1, 0);
    t.pile("5 neg -6 neg 0 neg", -5, 6, 0);
    t.pile("3 3 eq 3 4 eq 3 4 lt 4 3 lt 3 3 lt", 1, 0, 1, 0, 0);
    t.pile("0 not 1 not -5 not", 1, 0, 0);
    t.fault(ZERO, "1 0 !div");
    t.fault(ZERO, "1 0 !mod");
    t.pile("9999 10 mul 9 add", 99999);
    t.pile("-9999 10 mul 9 sub", -99999);
    t.fault(RANGE, "9999 10 mul 10 !add");
    t.fault(RANGE, "-9999 10 mul 10 !sub");
    t.fault(RANGE, "9999 9999 !mul");
    t.fault(RANGE, "9999 9 mul dup !mul");
  }

  private static void pileOrders() {
    t.pile("1 2 dup", 1, 2, 2);
    t.pile("1 2 pop", 1);
    t.pile("1 2 exch", 2, 1);
    t.pile("5 6 7 0 index 2 index", 5, 6, 7, 7, 6);
    t.pile("count count 9 count", 0, 1, 9, 3);
    Plateroomprinter x = t.after("[ 1 2 ] /4 exch dup");
    t.due("procedures are items", x.item(0, 0), 2);
    t.due("twice", x.item(1, 1), 2);
    t.due("names too", x.item(2, 1), 4);
    t.fault(RANGE, "1 -1 !index");
    t.fault(UNDER, "1 1 !index");
    t.fault(UNDER, "0 !index");
    t.fault(KIND, "1 /0 !index");
    t.fault(UNDER, "!dup");
    t.fault(UNDER, "!pop");
    t.fault(UNDER, "1 !exch");
    t.fault(FULL, repeated("3", 40) + "!dup");
    t.fault(FULL, repeated("3", 40) + "!count");
    t.due("one more fits", t.after(repeated("3", 39) + "dup").items(), 40);
  }

  private static void conditions() {
    t.pile("1 [ 5 ] if 0 [ 6 ] if -1 [ 7 ] if", 5, 7);
    t.pile("1 [ 5 ] [ 6 ] ifelse 0 [ 5 ] [ 6 ] ifelse", 5, 6);
    t.fault(UNDER, "[ 5 ] !if");
    t.fault(KIND, "1 5 !if");
    t.fault(KIND, "[ 1 ] [ 5 ] !if");
    t.fault(KIND, "1 [ 5 ] 6 !ifelse");
    t.fault(KIND, "1 6 [ 5 ] !ifelse");
    t.fault(KIND, "5 !do");
    t.fault(KIND, "/0 !do");
  }

  private static void loops() {
    t.pile("3 [ 5 ] repeat", 5, 5, 5);
    t.pile("0 [ 5 ] repeat 1 [ 6 ] repeat", 6);
    t.fault(RANGE, "-1 [ 5 ] !repeat");
    t.fault(RANGE, "100 [ ] !repeat");
    t.due("99 rounds", t.after("0 99 [ 1 add ] repeat").item(0, 1), 99);
    t.pile("1 2 6 [ ] for", 1, 3, 5);
    t.pile("1 2 7 [ ] for", 1, 3, 5, 7);
    t.pile("5 -2 1 [ ] for", 5, 3, 1);
    t.pile("5 -2 2 [ ] for", 5, 3);
    t.pile("5 1 4 [ 9 ] for 4 -1 5 [ 9 ] for 4 1 4 [ 9 ] for", 4, 9);
    t.fault(RANGE, "1 0 5 [ ] !for");
    t.fault(RANGE, "1 0 0 [ ] !for");
    t.fault(UNDER, "0 5 [ ] !for");
    t.fault(KIND, "0 1 5 !for");
    // A round that finds the pile full: its place is that of the loop's order, in its own row.
    t.due("40 numbers", t.after("1 1 40 [ ] for").items(), 40);
    t.fault(FULL, "0 1 40 [ ] !for");
    t.fault(FULL, "7 [ 0 1 40 [ ] ?for ] !do");
    t.fault(FULL, "7 [ 0 1 40 [ neg neg ] ?for 8 ] !do");
    t.fault(FULL, "7 [ 2 [ 0 1 40 [ neg neg ] ?for ] repeat 8 ] !do");
    t.pile("2 [ 3 [ 1 ] repeat 2 ] repeat", 1, 1, 1, 2, 1, 1, 1, 2);
  }

  private static void exits() {
    t.pile("5 [ 7 exit 8 ] repeat 9", 7, 9);
    t.pile("1 1 9 [ dup 3 eq [ exit ] if ] for", 1, 2, 3);
    t.pile("2 [ 3 [ 1 exit ] repeat 2 ] repeat", 1, 2, 1, 2);
    t.pile("/0 [ 4 exit 5 ] def 3 [ 6 @0 7 ] repeat 8", 6, 4, 8);
    // The loop is at its end here, but a row in it still is being done.
    t.pile("/0 [ 4 exit 5 ] def 1 [ 6 @0 ] repeat 8", 6, 4, 8);
    t.fault(LOOP, "!exit");
    t.fault(LOOP, "2 [ 1 ] repeat !exit");
    t.fault(LOOP, "2 [ ] repeat [ ?exit ] !do");
  }

  private static void states() {
    Plateroomprinter x = t.after(
        "2 3 move 1 2 to 3 4 line 5 pen 1 cap 1 join 4 size 1 2 3 4 colour save",
        "new 9 9 4 4 box clip 2 1 2 1 scale 7 pen 0 cap 0 join 2 size 9 grey");
    t.due("one is kept", x.state(14), 1);
    t.due("clip", x.state(13), 16);
    t.due("restore", Checks.run(x, "restore"), 0);
    int[] due = {5, 1, 1, 4, 1, 2, 3, 4, 1, 80, 112, 1, 2, 1024, 0};
    for (int k = 0; k < due.length; k++) {
      t.due("state " + k, x.state(k), due[k]);
    }
    entries(x, 1, 1, 0, 1, 0, 1, 1, 1, 2, 1, 3, 1);
    t.ring(x, 0, 0, 48, 80, 80, 112);
    t.fault(UNDER, "!restore");
    t.fault(UNDER, "save restore !restore");
    t.fault(DEEP, repeated("save", 8) + "!save");
    t.due("the top one", t.after("1 pen save 2 pen save 3 pen restore").state(0), 2);
    // The pile, the names, the forms and the page are no part of it.
    Plateroomprinter z = t.after("save 5 /3 6 def 0 0 2 2 box 1 keep fill restore");
    t.due("pile", z.items(), 1);
    t.due("name", z.name(3, 1), 6);
    t.due("page", z.count(3), 4);
    t.due("form", z.form(1, 0), 1);
  }

  private static void entries(Plateroomprinter x, int... due) {
    for (int k = 0; k < 6; k++) {
      t.due("numerator " + k, x.matrix(k, 0), due[2 * k]);
      t.due("denominator " + k, x.matrix(k, 1), due[2 * k + 1]);
    }
  }

  private static void matrices() {
    entries(t.after("3 -4 move"), 1, 1, 0, 1, 0, 1, 1, 1, 3, 1, -4, 1);
    entries(t.after("3 6 -4 8 scale"), 1, 2, 0, 1, 0, 1, -1, 2, 0, 1, 0, 1);
    entries(t.after("3 -6 4 -8 scale"), -1, 2, 0, 1, 0, 1, -1, 2, 0, 1, 0, 1);
    entries(t.after("2 1 3 1 scale 1 turn"), 0, 1, 3, 1, -2, 1, 0, 1, 0, 1, 0, 1);
    entries(t.after("2 1 3 1 scale 2 turn"), -2, 1, 0, 1, 0, 1, -3, 1, 0, 1, 0, 1);
    entries(t.after("2 1 3 1 scale -1 turn"), 0, 1, -3, 1, 2, 1, 0, 1, 0, 1, 0, 1);
    entries(t.after("2 1 3 1 scale 4 turn -8 turn"), 2, 1, 0, 1, 0, 1, 3, 1, 0, 1, 0, 1);
    entries(t.after("1 2 slant"), 1, 1, 0, 1, 1, 2, 1, 1, 0, 1, 0, 1);
    entries(t.after("1 turn 1 2 slant"), 0, 1, 1, 1, -1, 1, 1, 2, 0, 1, 0, 1);
    // a, b are 0, 1/3 and c, d are -1/5, 1/10: twice moved e, f are -8/5 and 9/5.
    entries(t.after("1 turn 1 2 slant 1 3 1 5 scale 1 1 move 2 7 move"),
        0, 1, 1, 3, -1, 5, 1, 10, -8, 5, 9, 5);
    t.fault(ZERO, "1 0 1 1 !scale");
    t.fault(ZERO, "0 1 1 0 !scale");
    t.fault(ZERO, "0 0 1 1 !scale");
    t.fault(RANGE, "0 1 1 1 !scale");
    t.fault(RANGE, "1 1 0 1 !scale");
    t.fault(ZERO, "1 0 !slant");
    entries(t.after("1000 1 1 1 scale 1000 1 1 1 scale"), 1000000, 1, 0, 1, 0, 1, 1, 1, 0, 1, 0, 1);
    t.fault(RANGE, "1000 1 1 1 scale 1001 1 1 1 !scale");
    t.fault(RANGE, "-1000 1 1 1 scale 1001 1 1 1 !scale");
    entries(t.after("1 1 1 1000 scale 1 1 -1 1000 scale"), 1, 1, 0, 1, 0, 1, -1, 1000000, 0, 1, 0, 1);
    t.fault(RANGE, "1 1 1 1000 scale 1 1 1 1001 !scale");
    t.fault(RANGE, "1 999 slant 1 1003 !slant");
    t.fault(RANGE, "1000 1 1 1 scale 1001 0 !move");
    t.fault(RANGE, "1 1 1000 1 scale 0 -1001 !move");
    t.fault(RANGE, "1 999 1 1 scale 1 0 move 999 1003 1 1 scale 1 0 !move");
    // Parts beyond all bounds may make up a sum that is within them.
    entries(t.after("1000 1 1 1 scale 1000 1 1 1 scale 1 -1 slant 9999 9999 move 1 0 move"),
        1000000, 1, 0, 1, -1000000, 1, 1, 1, 1000000, 1, 9999, 1);
  }

  private static void points() {
    Plateroomprinter x = t.after("1 2 to 3 4 line 5 6 by -1 -2 lineby");
    t.ring(x, 0, 0, 16, 32, 48, 64);
    t.ring(x, 1, 0, 128, 160, 112, 128);
    t.due("point x", x.state(9), 112);
    t.due("point y", x.state(10), 128);
    // Half a sixteenth is rounded up, also below 0.
    x = t.after("1 32 1 32 scale 1 -1 to 3 -3 line 3 -3 lineby");
    t.ring(x, 0, 0, 1, 0, 2, -1, 4, -2);
    // With a, b, c, d being 0, 1/2, -2, 0 and e, f 1, 3.
    x = t.after("1 3 move 2 1 1 2 scale 1 turn 3 5 to 3 5 by 1 1 lineby");
    entries(x, 0, 1, 1, 2, -2, 1, 0, 1, 1, 1, 3, 1);
    t.ring(x, 0, 0, 16 * (1 - 10), 16 * 3 + 24);
    t.ring(x, 1, 0, -144 - 160, 72 + 24, -304 - 32, 96 + 8);
    x = t.after("2000 -2000 to");
    t.due("farthest x", x.state(9), 32000);
    t.due("farthest y", x.state(10), -32000);
    // A delta may be beyond what its sum with the point may be.
    x = t.after("2000 0 to -4000 0 lineby");
    t.due("from end to end", x.state(9), -32000);
  }

  private static void curves() {
    Plateroomprinter x = t.after("0 0 to 0 0 60 0 180 10 curve");
    t.due("sixteen points more", x.state(12), 17);
    t.due("their last one", x.point(0, 16, 0), 2880);
    t.due("point", x.state(10), 160);
    t.ring(t.after("0 0 to 4 0 8 0 12 0 curve"), 0, 0, 0, 0, 192, 0);
    // From here on in sixteenths. Just flat, and no more: the second one out of its middle by 8 and by 9.
    String fine = "1 16 1 16 scale 0 0 to ";
    t.ring(t.after(fine + "0 16 0 32 0 40 curve"), 0, 0, 0, 0, 0, 40);
    t.ring(t.after(fine + "0 16 0 32 0 39 curve"), 0, 0, 0, 0, 0, 22, 0, 39);
    t.ring(t.after(fine + "16 0 32 0 56 0 curve"), 0, 0, 0, 0, 56, 0);
    t.ring(t.after(fine + "16 0 32 0 57 0 curve"), 0, 0, 0, 0, 25, 0, 57, 0);
    t.ring(t.after(fine + "-8 0 -24 0 -40 0 curve"), 0, 0, 0, 0, -40, 0);
    t.ring(t.after(fine + "-8 0 -25 0 -42 0 curve"), 0, 0, 0, 0, -19, 0, -42, 0);
    t.ring(t.after(fine + "-12 -12 -16 -16 -20 -20 curve"), 0, 0, 0, 0, -20, -20);
    t.ring(t.after(fine + "-12 -13 -16 -17 -20 -21 curve"), 0, 0, 0, 0, -13, -14, -20, -21);
    // Behind a closed ring the curve begins a new one with the point.
    x = t.after(fine + "4 4 line close 1 1 2 2 3 3 curve");
    t.ring(x, 0, 1, 0, 0, 4, 4);
    t.ring(x, 1, 0, 0, 0, 3, 3);
    // It begins at the point also where this is none of the path.
    x = t.after("0 0 to 1 show 1 16 1 16 scale 48 0 48 0 48 0 curve");
    t.ring(x, 0, 0, 0, 0, 48, 0);
    x = t.after("0 0 to 1 show 1 16 1 16 scale 40 0 32 0 22 0 curve");
    t.ring(x, 0, 0, 0, 0, 22, 0);
  }

  private static void closing() {
    Plateroomprinter x = t.after("1 1 to 5 1 line 5 5 line close 2 0 lineby");
    t.ring(x, 0, 1, 16, 16, 80, 16, 80, 80);
    t.ring(x, 1, 0, 16, 16, 48, 16);
    x = t.after("2 3 4 5 box 9 9 line close close");
    t.ring(x, 0, 1, 32, 48, 96, 48, 96, 128, 32, 128);
    t.ring(x, 1, 1, 32, 48, 144, 144);
    t.due("point", x.state(9), 32);
    x = t.after("1 1 to 5 1 line 5 5 line close 1 1 by");
    t.ring(x, 1, 0, 32, 32);
    x = t.after("1 1 2 2 box 1 1 to new");
    t.due("no rings", x.state(11), 0);
    t.due("no point", x.state(8), 0);
    x = t.after("5 6 -2 -3 box");
    t.ring(x, 0, 1, 80, 96, 48, 96, 48, 48, 80, 48);
    // A closed ring stays closed; one that is made by "to" is open though another one is not.
    x = t.after("1 1 to close 2 2 to");
    t.due("closed", x.ring(0, 1), 1);
    t.due("open", x.ring(1, 1), 0);
  }

  private static void pathFaults() {
    for (String text : new String[] {"1 2 !line", "1 2 !by", "1 2 !lineby", "1 2 3 4 5 6 !curve", "!close"}) {
      t.fault(POINT, text);
      t.fault(POINT, "1 1 to new " + text);
    }
    t.fault(POINT, "9999 9999 !line");
    t.fault(UNDER, "1 !line");
    t.fault(KIND, "/1 2 !by");
    t.fault(RANGE, "2001 0 !to");
    t.fault(RANGE, "0 -2001 !to");
    String fine = "1 16 1 16 scale 9999 3 mul 2003 add 9999 -3 mul 2003 sub ";
    Plateroomprinter x = t.after(fine + "to");
    t.due("farthest x", x.state(9), 32000);
    t.due("farthest y", x.state(10), -32000);
    t.fault(RANGE, fine + "1 sub !to");
    t.fault(RANGE, fine + "exch 1 add exch !to");
    t.fault(RANGE, fine + "1 sub 0 !to");
    t.fault(RANGE, fine + "pop 1 add 0 exch !to");
    t.fault(RANGE, "1 1 to 0 2001 !line");
    t.fault(RANGE, "2000 0 to 1 0 !by");
    t.fault(RANGE, "0 -2000 to 0 -1 !lineby");
    t.fault(RANGE, "0 0 to 2001 0 0 0 0 0 !curve");
    t.fault(RANGE, "0 0 to 0 0 0 -2001 0 0 !curve");
    t.fault(RANGE, "0 0 to 0 0 0 0 0 2001 !curve");
    t.fault(RANGE, "1999 0 2 1 !box");
    t.fault(RANGE, "0 1999 1 2 !box");
    String most = "0 0 to 99 [ 1 0 lineby ] repeat 20 [ 1 0 lineby ] repeat ";
    t.due("120 points", t.after(most).state(12), 120);
    t.fault(FULL, most + "1 1 !to");
    t.fault(FULL, most + "1 1 !line");
    t.fault(FULL, most + "1 1 !by");
    t.fault(FULL, most + "1 1 !lineby");
    t.fault(FULL, most + "1 1 1 1 !box");
    t.fault(FULL, most + "119 0 120 0 121 0 !curve");
    t.fault(RANGE, most + "1990 1 !lineby");
    t.fault(RANGE, most + "2001 1 !to");
    t.fault(RANGE, most + "2000 1 1 1 !box");
    String less = "0 0 to 99 [ 1 0 lineby ] repeat 16 [ 1 0 lineby ] repeat ";
    t.due("a box fits", t.after(less + "1 1 1 1 box").state(12), 120);
    t.fault(FULL, less + "1 0 lineby 1 1 1 1 !box");
    String closed = "0 0 to 99 [ 1 0 lineby ] repeat 18 [ 1 0 lineby ] repeat ";
    t.due("a new ring of two points fits", t.after(closed + "close 1 1 line").state(12), 120);
    t.fault(FULL, closed + "1 0 lineby close 1 1 !line");
    String curve = "0 0 to 99 [ 1 0 lineby ] repeat 4 [ 1 0 lineby ] repeat ";
    t.due("a curve fits", t.after(curve + "103 0 163 0 283 0 curve").state(12), 120);
    t.fault(FULL, curve + "1 0 lineby 104 0 164 0 284 0 !curve");
    t.fault(FULL, curve + "close 0 0 60 0 180 0 !curve");
  }

  private static void fills() {
    // Middles on an edge: that at its left is in, that at its right is not; so with the upper and the lower one.
    Plateroomprinter x = t.after("1 2 1 2 scale 3 5 4 6 box fill");
    t.plate(x, 3, 1, 2, "##", "##", "##");
    x = t.after("1 16 1 16 scale 25 41 30 30 box fill");
    t.plate(x, 3, 2, 3, "#");
    // A slope: the dots whose middle is not left of it.
    x = t.after("2 2 to 6 2 line 6 6 line fill");
    t.plate(x, 3, 2, 2, "####", ".###", "..##", "...#");
    x = t.after("2 2 to 6 6 line 2 6 line fill");
    t.plate(x, 3, 2, 2, "....", "#...", "##..", "###.");
    // Open rings are filled like closed ones; two turns are in by TURNS, out by EVEN.
    String twice = "2 2 6 6 box 4 4 to 6 4 line 6 6 line 4 6 line ";
    x = t.after(twice + "fill");
    t.due("by turns", x.figure(0, 0), 36);
    t.due("no rings", x.state(11), 0);
    t.due("no point", x.state(8), 0);
    t.plate(t.after(twice + "evenfill"), 3, 2, 2, "######", "######", "##..##", "##..##", "######", "######");
    x = t.after("2 2 6 6 box 4 4 to 4 6 line 6 6 line 6 4 line fill");
    t.plate(x, 3, 2, 2, "######", "######", "##..##", "##..##", "######", "######");
    x = t.after("fill evenfill 3 3 to fill");
    t.due("a path without rings is a figure", x.figures(), 3);
    t.due("of one set", x.figure(0, 1), 1);
    t.due("of no points", x.figure(0, 2), 0);
    t.due("of one point", x.figure(2, 2), 1);
    t.due("of no dots", x.figure(2, 0), 0);
    t.due("beyond the page", t.after("-900 -900 1800 1800 box fill").count(3), 1024);
    t.due("left of the page", t.after("-9 0 9 9 box fill").count(3), 0);
    t.fault(FULL, "60 [ fill ] repeat !fill");
    t.fault(FULL, "60 [ stroke ] repeat !evenfill");
    t.fault(FULL, "60 [ fill ] repeat !stroke");
    t.fault(FULL, "60 [ fill ] repeat 1 1 to 1 !image");
    t.fault(FULL, "59 [ fill ] repeat 1 1 to 11 !show");
    t.due("60 figures", t.after("60 [ fill ] repeat").figures(), 60);
    // As it is painted again, a dot is put off where its amount says so.
    t.due("put off", t.after("0 0 4 4 box fill 0 grey 1 1 2 2 box fill").count(3), 12);
  }

  private static void clips() {
    Plateroomprinter x = t.after("2 2 6 6 box clip");
    t.due("clip", x.state(13), 36);
    t.due("path", x.state(11), 0);
    t.due("point", x.state(8), 0);
    x = t.after("2 2 6 6 box clip 4 4 to 9 4 line 9 9 line 4 9 line clip");
    t.due("both", x.state(13), 16);
    t.due("run", Checks.run(x, "0 0 32 32 box fill"), 0);
    t.due("painted within it", x.count(3), 16);
    t.due("and told so", x.figure(0, 0), 16);
    t.plate(x, 3, 4, 4, "####", "####", "####", "####");
    t.due("run", Checks.run(x, "7 7 to whole"), 0);
    t.due("whole", x.state(13), 1024);
    t.due("the point stays", x.state(8), 1);
    t.due("the figure has its own clip", x.figure(0, 0), 16);
    String twice = "2 2 6 6 box 4 4 to 6 4 line 6 6 line 4 6 line ";
    t.due("by turns", t.after(twice + "clip").state(13), 36);
    t.due("by even", t.after(twice + "evenclip").state(13), 32);
    t.due("nothing", t.after("clip").state(13), 0);
    t.due("a clip paints nothing", t.after(twice + "clip").figures(), 0);
  }

  private static void strokes() {
    Plateroomprinter x = t.after("2 4 to 8 4 line 2 pen stroke");
    t.plate(x, 3, 2, 3, "######", "######");
    t.due("one bar", x.figure(0, 1), 1);
    t.due("its points", x.figure(0, 2), 4);
    t.due("no path", x.state(11), 0);
    x = t.after("4 8 to 4 2 line 2 pen stroke");
    t.plate(x, 3, 3, 2, "##", "##", "##", "##", "##", "##");
    x = t.after("4 4 to 4 4 line 2 pen 1 cap stroke");
    t.plate(x, 3, 3, 3, "##", "##");
    t.due("a bar and two squares", x.figure(0, 1), 3);
    // As much across as down: the bar is that of a flat line.
    x = t.after("2 2 to 5 5 line 2 pen stroke");
    t.plate(x, 3, 2, 2, "#..", "##.", ".##", "..#");
    x = t.after("2 2 to 4 5 line 2 pen stroke");
    t.plate(x, 3, 1, 2, "##..", ".##.", "..##");
    strokeSets();
  }

  private static void strokeSets() {
    String open = "2 2 to 9 2 line 9 9 line ";
    t.due("two bars", t.after(open + "stroke").figure(0, 1), 2);
    t.due("closed: three", t.after(open + "close stroke").figure(0, 1), 3);
    t.due("one joint", t.after(open + "1 join stroke").figure(0, 1), 3);
    t.due("closed: three joints", t.after(open + "close 1 join stroke").figure(0, 1), 6);
    t.due("two caps", t.after(open + "1 cap stroke").figure(0, 1), 4);
    t.due("closed: none", t.after(open + "close 1 cap stroke").figure(0, 1), 3);
    t.due("all", t.after(open + "1 cap 1 join stroke").figure(0, 1), 5);
    t.due("their points", t.after(open + "1 cap 1 join stroke").figure(0, 2), 20);
    t.due("two points closed", t.after("2 2 to 9 2 line close stroke").figure(0, 1), 2);
    t.due("one point closed", t.after("2 2 to close stroke").figure(0, 1), 1);
    t.due("with a joint", t.after("2 2 to close 1 join stroke").figure(0, 1), 2);
    t.due("its dots", t.after("2 2 to close 1 join 2 pen stroke").figure(0, 0), 4);
    t.due("one point open", t.after("2 2 to 1 join stroke").figure(0, 1), 0);
    t.due("with caps", t.after("2 2 to 1 join 1 cap stroke").figure(0, 1), 2);
    t.due("no path", t.after("stroke").figure(0, 1), 0);
    t.due("is a figure too", t.after("stroke").figures(), 1);
    Plateroomprinter x = t.after("2 2 to 6 2 line 6 6 line 2 pen 1 join stroke");
    t.plate(x, 3, 2, 1, "#####", "#####", "...##", "...##", "...##");
    x = t.after("2 2 to 6 2 line 6 6 line 2 pen stroke");
    t.plate(x, 3, 2, 1, "####.", "#####", "...##", "...##", "...##");
    x = t.after("4 4 to 6 4 line 2 pen 1 cap stroke");
    t.plate(x, 3, 3, 3, "####", "####");
    t.fault(RANGE, "0 !pen");
    t.fault(RANGE, "9 !pen");
    t.fault(RANGE, "2 !cap");
    t.fault(RANGE, "-1 !cap");
    t.fault(RANGE, "2 !join");
    t.fault(RANGE, "-1 !join");
    t.fault(RANGE, "0 !size");
    t.fault(RANGE, "9 !size");
    x = t.after("8 pen 8 size 1 cap 1 join");
    t.due("pen", x.state(0), 8);
    t.due("cap", x.state(1), 1);
    t.due("join", x.state(2), 1);
    t.due("size", x.state(3), 8);
    x = t.after("8 pen 8 size 1 cap 1 join 1 pen 1 size 0 cap 0 join");
    t.due("cap", x.state(1), 0);
    t.due("join", x.state(2), 0);
  }

  private static void digits() {
    // Moved by half a dot, strokes and caps of the pen 1 fill just the dots that they come to.
    int[] sets = {6, 1, 5, 5, 4, 5, 6, 3, 7, 6};
    int[] widths = {5, 3, 5, 5, 5, 5, 5, 5, 5, 5};
    String[][] shapes = {
      {"#####", "#...#", "#...#", "#...#", "#...#", "#...#", "#####"},
      {".#", ".#", ".#", ".#", ".#", ".#", ".#"},
      {"#####", "....#", "....#", "#####", "#....", "#....", "#####"},
      {"#####", "....#", "....#", "#####", "....#", "....#", "#####"},
      {"#...#", "#...#", "#...#", "#####", "....#", "....#", "....#"},
      {"#####", "#....", "#....", "#####", "....#", "....#", "#####"},
      {"#####", "#....", "#....", "#####", "#...#", "#...#", "#####"},
      {"#####", "....#", "....#", "....#", "....#", "....#", "....#"},
      {"#####", "#...#", "#...#", "#####", "#...#", "#...#", "#####"},
      {"#####", "#...#", "#...#", "#####", "....#", "....#", "#####"},
    };
    for (int digit = 0; digit < 10; digit++) {
      Plateroomprinter x = t.after("1 2 1 2 scale 1 1 move 2 1 2 1 scale 5 5 to 1 cap " + digit + " show");
      t.due("strokes and caps of " + digit, x.figure(0, 1), sets[digit] * 3);
      t.plate(x, 3, 5, 5, shapes[digit]);
      t.due("width of " + digit, x.state(9) - x.point(0, 0, 0), 16 * widths[digit]);
    }
    Plateroomprinter x = t.after("2 2 to 407 show");
    t.due("three figures", x.figures(), 3);
    t.due("point", x.state(9), 32 + 3 * 80);
    t.ring(x, 0, 0, 32, 32);
    t.due("run", Checks.run(x, "1 1 line"), 0);
    t.ring(x, 0, 0, 32, 32, 16, 16);
    x = t.after("2 2 to 3 size 10 show");
    t.due("point", x.state(9), 32 + 16 * 3 * 8);
    x = t.after("2 2 to 1 turn 7 show");
    t.due("turned x", x.state(9), 32);
    t.due("turned y", x.state(10), 32 + 80);
    x = t.after("2 2 to 0 show");
    t.due("the digit 0", x.figure(0, 1), 6);
    strokesOfDigits();
    t.fault(RANGE, "-1 !show");
    t.fault(POINT, "1 !show");
    t.fault(RANGE, "1999 1 to 3 !show");
    t.fault(RANGE, "1996 1 to 3 !show");
    t.fault(RANGE, "1 1996 to 3 !show");
    t.due("just", t.after("1995 1 to 3 show").state(9), 32000);
  }

  /** Each digit is the FIGURE of its STROKES, as a PATH of OPEN RINGS gives it too. */
  private static void strokesOfDigits() {
    int[][] strokes = {{0, 0, 4, 0}, {4, 0, 4, 3}, {4, 3, 4, 6}, {0, 6, 4, 6}, {0, 3, 0, 6}, {0, 0, 0, 3}, {0, 3, 4, 3},
        {1, 0, 1, 6}};
    String[] digits = {"012345", "7", "01346", "01236", "1256", "02356", "023456", "012", "0123456", "012356"};
    for (int digit = 0; digit < 10; digit++) {
      StringBuilder path = new StringBuilder();
      for (char k : digits[digit].toCharArray()) {
        int[] s = strokes[k - '0'];
        path.append(2 + 3 * s[0]).append(' ').append(5 + 3 * s[1]).append(" to ");
        path.append(2 + 3 * s[2]).append(' ').append(5 + 3 * s[3]).append(" line ");
      }
      String tools = "2 pen " + digit % 2 + " cap ";
      Plateroomprinter x = t.after(tools + path + "stroke");
      Plateroomprinter y = t.after(tools + "2 5 to 3 size " + digit + " show");
      t.due("sets of " + digit, y.figure(0, 1), x.figure(0, 1));
      for (int row = 0; row < 32; row++) {
        t.due("row " + row + " of " + digit, y.row(3, row), x.row(3, row));
      }
    }
    Plateroomprinter x = t.after("2 2 to " + Checks.number(18257) + " show");
    int[] due = {1, 7, 5, 5, 3};
    for (int k = 0; k < due.length; k++) {
      t.due("sets of the digit " + k, x.figure(k, 1), due[k]);
    }
  }

  private static void digitsInWidth() {
    Plateroomprinter x = t.after("2 2 to 15 444 set");
    t.due("no rest", x.state(9), 32 + 240);
    x = t.after("2 2 to 16 444 set");
    t.due("a rest of 1", x.state(9), 32 + 256);
    t.fault(RANGE, "2 2 to 14 444 !set");
    t.fault(RANGE, "2 2 to 29 2 size 444 !set");
    t.due("the size counts", t.after("2 2 to 30 2 size 444 set").state(9), 32 + 480);
    t.due("one digit", t.after("2 2 to 30 7 set").state(9), 32 + 80);
    t.fault(RANGE, "30 -7 !set");
    t.fault(RANGE, "-1 -7 !set");
    t.fault(POINT, "30 7 !set");
    t.fault(POINT, "1 7 !set");
    // A rest of 5 between four digits: 2, 2 and 1 more. The digits of 1111 are 3 wide.
    x = t.after("1 3 to 2 pen 17 1111 set");
    String bars = "##...##...##..##";
    t.plate(x, 3, 1, 3, bars, bars, bars, bars, bars, bars);
    t.due("point", x.state(9), 16 + 16 * 17);
    t.due("figures", x.figures(), 4);
  }

  private static void colours() {
    Plateroomprinter x = t.after("1 2 3 4 colour");
    for (int k = 0; k < 4; k++) {
      t.due("amount " + k, x.state(4 + k), k + 1);
    }
    x = t.after("1 2 3 4 colour 9 grey");
    t.due("grey", x.state(4) + x.state(5) + x.state(6), 0);
    t.due("grey", x.state(7), 9);
    t.fault(RANGE, "17 0 0 0 !colour");
    t.fault(RANGE, "0 -1 0 0 !colour");
    t.fault(RANGE, "0 0 17 0 !colour");
    t.fault(RANGE, "0 0 0 -1 !colour");
    t.fault(RANGE, "17 !grey");
    t.fault(RANGE, "-1 !grey");
    // Each amount of each plate over the whole page: as many dots as the screen has numbers below it.
    for (int amount = 0; amount <= 16; amount++) {
      x = t.after(repeated("" + amount, 4) + "colour 0 0 32 32 box fill");
      for (int plate = 0; plate < 4; plate++) {
        t.due("dots of " + amount, x.count(plate), 64 * amount);
      }
    }
    // The number 0 of the screen stands at 0, 0; on the plate p it is moved by 2 * p and by p.
    x = t.after("1 1 1 1 colour 0 0 4 4 box fill");
    t.plate(x, 0, 0, 0, "#");
    t.plate(x, 1, 2, 3, "#");
    t.plate(x, 2, 0, 2, "#");
    t.plate(x, 3, 2, 1, "#");
    x = t.after("6 9 3 11 colour 0 0 4 4 box fill");
    t.plate(x, 0, 0, 0, "#.#.", ".#..", "#.#.", "...#");
    t.plate(x, 1, 0, 0, ".#.#", "#.#.", ".#.#", "#.##");
    t.plate(x, 2, 0, 0, "..#.", "....", "#.#.", "....");
    t.plate(x, 3, 0, 0, ".#.#", "####", ".#.#", "###.");
    t.due("colour", x.dot(0, 0), 1);
    t.due("colour", x.dot(1, 0), 2 + 8);
  }

  private static void images() {
    Plateroomprinter x = t.after("3 4 to 4095 image");
    t.plate(x, 3, 3, 4, "####", "####", "####");
    t.due("sets", x.figure(0, 1), 12);
    t.due("points", x.figure(0, 2), 48);
    t.due("the path stays", x.state(12), 1);
    t.due("the point stays", x.state(9), 48);
    x = t.after("3 4 to 2641 image");
    t.plate(x, 3, 3, 4, "#...", "#.#.", ".#.#");
    x = t.after("3 4 to 0 image");
    t.due("no sets", x.figure(0, 1), 0);
    t.due("a figure", x.figures(), 1);
    x = t.after("9 9 to 1 turn 2 1 3 1 scale 3 image");
    t.due("turned and scaled", x.count(3), 12);
    t.plate(x, 3, 6, 9, "###", "###", "###", "###");
    t.fault(RANGE, "-1 !image");
    t.fault(RANGE, "4096 !image");
    t.fault(POINT, "4095 !image");
    t.fault(RANGE, "1997 1 to 8 !image");
    t.due("just", t.after("1997 1 to 4 image").figures(), 1);
  }

  private static void forms() {
    String kept = "1 1 2 2 box 5 5 to 6 5 line 3 keep ";
    Plateroomprinter x = t.after(kept + "new 2 3 3 use");
    t.ring(x, 0, 1, 48, 64, 80, 64, 80, 96, 48, 96);
    t.ring(x, 1, 0, 112, 128, 128, 128);
    t.due("the last point of an open ring", x.state(9), 128);
    t.due("form", x.form(3, 0), 1);
    t.due("rings", x.form(3, 1), 2);
    t.due("points", x.form(3, 2), 6);
    x = t.after("1 1 2 2 box 3 keep new 9 9 to 2 3 3 use 0 0 line");
    t.ring(x, 0, 0, 144, 144);
    t.ring(x, 1, 1, 48, 64, 80, 64, 80, 96, 48, 96);
    t.ring(x, 2, 0, 48, 64, 0, 0);
    x = t.after(kept + "new 9 1 9 1 scale 5 5 move 0 0 3 use");
    t.ring(x, 1, 0, 80, 80, 96, 80);
    x = t.after("0 keep 4 4 to 1 1 0 use");
    t.due("a form without rings", x.form(0, 0), 1);
    t.due("changes nothing", x.state(9), 64);
    t.due("nor without a point", t.after("0 keep 1 1 0 use").state(8), 0);
    x = t.after(kept + "new 3 keep");
    t.due("kept anew", x.form(3, 2), 0);
    t.fault(RANGE, "-1 !keep");
    t.fault(RANGE, "5 !keep");
    t.fault(RANGE, "1 1 5 !use");
    t.fault(RANGE, "1 1 -1 !use");
    t.fault(NAME, "1 1 4 !use");
    t.fault(RANGE, kept + "1995 0 3 !use");
    t.due("just", t.after(kept + "1994 0 3 use").state(9), 32000);
    t.fault(RANGE, kept + "0 -2002 3 !use");
    t.fault(FULL, kept + "19 [ 0 0 3 use ] repeat 0 0 3 !use");
    t.fault(RANGE, kept + "19 [ 0 0 3 use ] repeat 1995 0 3 !use");
    t.due("120 points", t.after(kept + "19 [ 0 0 3 use ] repeat").state(12), 120);
  }

  private static void pages() {
    Plateroomprinter x = t.after("1 1 2 2 box fill page 5 5 2 3 box fill");
    t.due("printed", x.page(0), 1);
    t.due("last page", x.page(4), 4);
    t.due("this page", x.count(3), 6);
    t.due("figures", x.figures(), 1);
    t.due("run", Checks.run(x, "9 9 to page"), 0);
    t.due("printed", x.page(0), 2);
    t.due("last page", x.page(4), 6);
    t.due("this page", x.count(3), 0);
    t.due("figures", x.figures(), 0);
    t.due("the state stays", x.state(8), 1);
  }

  /** Every order with too few operands, and with one of the wrong sort at each place. */
  private static void operands() {
    String[] all = {
      "nn add", "nn sub", "nn mul", "nn div", "nn mod", "n neg", "nn eq", "nn lt", "n not", "n index",
      "p do", "np if", "npp ifelse", "np repeat", "nnnp for",
      "nn move", "nnnn scale", "n turn", "nn slant",
      "nn to", "nn line", "nn by", "nn lineby", "nnnnnn curve", "nnnn box",
      "nnnn colour", "n grey", "n pen", "n cap", "n join", "n size", "n show", "nn set", "n image", "n keep", "nnn use"
    };
    for (String text : all) {
      String sorts = text.substring(0, text.indexOf(' '));
      String order = text.substring(text.indexOf(' ') + 1);
      for (int wrong = 0; wrong < sorts.length(); wrong++) {
        // What is below the wrong one is not looked at; what is above it is as told.
        StringBuilder above = new StringBuilder();
        for (int k = wrong + 1; k < sorts.length(); k++) {
          above.append(sorts.charAt(k) == 'p' ? "[ ] " : "1 ");
        }
        t.fault(UNDER, above + "!" + order);
        t.fault(KIND, "/1 " + above + "!" + order);
        t.fault(KIND, (sorts.charAt(wrong) == 'p' ? "1 " : "[ ] ") + above + "!" + order);
      }
    }
  }
}
