import java.util.List;

/** What the tests by hand have in common: counting, and writing programs as words. */
final class Checks {
  static final int NONE = -1;
  private static final List<String> ORDERS = List.of(
      "add", "sub", "mul", "div", "mod", "neg", "eq", "lt", "not",
      "dup", "pop", "exch", "index", "count", "def", "do", "if", "ifelse", "repeat", "for", "exit",
      "save", "restore", "move", "scale", "turn", "slant",
      "new", "to", "line", "by", "lineby", "curve", "close", "box",
      "fill", "evenfill", "stroke", "clip", "evenclip", "whole",
      "colour", "grey", "pen", "cap", "join", "size", "show", "set", "image",
      "keep", "use", "page");

  private int asked;
  private int wrong;

  interface Call {
    void go();
  }

  void due(String what, long got, long want) {
    asked++;
    if (got != want) {
      wrong++;
      System.out.println(what + ": " + got + ", due is " + want);
    }
  }

  void yes(String what, boolean got) {
    due(what, got ? 1 : 0, 1);
  }

  void no(String what, boolean got) {
    due(what, got ? 1 : 0, 0);
  }

  void illegalArgument(Plateroomprinter x, String what, Call call) {
    refused(x, what, IllegalArgumentException.class, call);
  }

  void illegalState(Plateroomprinter x, String what, Call call) {
    refused(x, what, IllegalStateException.class, call);
  }

  void outOfBounds(Plateroomprinter x, String what, Call call) {
    refused(x, what, IndexOutOfBoundsException.class, call);
  }

  /** The call throws just that, and changes nothing. */
  private void refused(Plateroomprinter x, String what, Class<?> due, Call call) {
    asked++;
    long before = x.digest();
    Class<?> got = null;
    try {
      call.go();
    } catch (RuntimeException e) {
      got = e.getClass();
    }
    if (got != due) {
      wrong++;
      System.out.println(what + ": threw " + got + ", due is " + due);
    }
    due("all behind the refused " + what, x.digest(), before);
  }

  /** Tells the count, and ends the machine with 1 if an answer was wrong. */
  void end() {
    System.out.println(asked + " answers asked, " + wrong + " wrong");
    if (wrong != 0) {
      System.exit(1);
    }
  }

  static int order(String word) {
    int order = ORDERS.indexOf(word);
    if (order < 0) {
      throw new IllegalArgumentException(word);
    }
    return order;
  }

  /** Words: numbers, [ and ], ORDERS, /3 for the NAME 3 said, @3 for the NAME 3 done. */
  static void write(Plateroomprinter x, String text) {
    for (String word : text.trim().split("\\s+")) {
      if (word.isEmpty()) {
        continue;
      }
      if (word.equals("[")) {
        x.token(4, 0);
      } else if (word.equals("]")) {
        x.token(5, 0);
      } else if (word.startsWith("/")) {
        x.token(2, Integer.parseInt(word.substring(1)));
      } else if (word.startsWith("@")) {
        x.token(3, Integer.parseInt(word.substring(1)));
      } else if (word.matches("-?[0-9]+")) {
        x.token(0, Integer.parseInt(word));
      } else {
        x.token(1, order(word));
      }
    }
  }

  static int run(Plateroomprinter x, String text) {
    write(x, text);
    return x.run();
  }

  /** A new object behind a run that must go well. */
  Plateroomprinter after(String... texts) {
    Plateroomprinter x = new Plateroomprinter();
    for (String text : texts) {
      due("run of " + text, run(x, text), 0);
    }
    return x;
  }

  /** The numbers on the pile, from the bottom on, behind a run. */
  void pile(String text, int... numbers) {
    pileOf(after(text), text, numbers);
  }

  void pileOf(Plateroomprinter x, String text, int... numbers) {
    due("items of " + text, x.items(), numbers.length);
    for (int k = 0; k < numbers.length && k < x.items(); k++) {
      due("sort of the item " + k + " of " + text, x.item(x.items() - 1 - k, 0), 0);
      due("item " + k + " of " + text, x.item(x.items() - 1 - k, 1), numbers[k]);
    }
  }

  /**
   * A run with a fault that changes nothing else. In the text ! stands ahead
   * of the token at the place in the PROGRAM, and ? ahead of the one at the
   * place in its own row, if that is another one.
   */
  void fault(int code, String marked) {
    fault(new Plateroomprinter(), code, marked);
  }

  void fault(Plateroomprinter x, int code, String marked) {
    String[] words = marked.trim().split("\\s+");
    int place = NONE;
    int ownPlace = NONE;
    for (int k = 0; k < words.length; k++) {
      if (words[k].startsWith("!")) {
        place = k;
      }
      if (words[k].startsWith("?")) {
        ownPlace = k - rowStart(words, k);
      }
    }
    write(x, marked.replace("!", "").replace("?", ""));
    int tokens = x.tokens();
    long before = digestButFault(x);
    due("run of " + marked, x.run(), code);
    due("code of " + marked, x.fault(0), code);
    due("place of " + marked, x.fault(1), place);
    due("own place of " + marked, x.fault(2), ownPlace == NONE ? place : ownPlace);
    due("tokens of " + marked, x.tokens(), tokens);
    due("all that is as ahead of " + marked, digestButFault(x), before);
    x.wipe();
  }

  /** Where the innermost procedure begins in which a word stands. */
  private static int rowStart(String[] words, int at) {
    int open = 0;
    for (int k = at - 1; k >= 0; k--) {
      if (words[k].equals("]")) {
        open--;
      } else if (words[k].equals("[")) {
        open++;
        if (open == 1) {
          return k + 1;
        }
      }
    }
    return 0;
  }

  /**
   * The digest without what FAULT gives to it: each value is multiplied by 31
   * for each one that is told behind it. An object is good for 512 calls only,
   * so asking all of it twice, call by call, would be too much.
   */
  private static long digestButFault(Plateroomprinter x) {
    int path = 2 * x.state(11) + 2 * x.state(12);
    int behind = 1 + 2 * x.items() + 20 + 3 + 53 + 15 + 12 + path + 15 + 3 + 1 + 7 * x.figures() + 4 * 34 + 6 + 1;
    long weight = 1;
    for (int k = 0; k < behind; k++) {
      weight *= 31;
    }
    long d = x.digest();
    for (int k = 2; k >= 0; k--) {
      d -= x.fault(k) * weight;
      weight *= 31;
    }
    return d;
  }

  /** The points of a ring: x, y, x, y and so on. */
  void ring(Plateroomprinter x, int ring, int closed, int... xy) {
    due("points of ring " + ring, x.ring(ring, 0), xy.length / 2);
    due("ring " + ring + " closed", x.ring(ring, 1), closed);
    for (int k = 0; k < xy.length / 2 && k < x.ring(ring, 0); k++) {
      due("x of point " + k + " of ring " + ring, x.point(ring, k, 0), xy[2 * k]);
      due("y of point " + k + " of ring " + ring, x.point(ring, k, 1), xy[2 * k + 1]);
    }
  }

  /** The rows of a plate of dots: # on, . off, from the row y and the place x on; all others are off. */
  void plate(Plateroomprinter x, int plate, int left, int top, String... rows) {
    for (int y = 0; y < 32; y++) {
      int bits = 0;
      if (y >= top && y < top + rows.length) {
        String row = rows[y - top];
        for (int k = 0; k < row.length(); k++) {
          bits |= row.charAt(k) == '#' ? 1 << (left + k) : 0;
        }
      }
      due("row " + y + " of plate " + plate, x.row(plate, y), bits);
    }
  }

  static String repeated(String text, int times) {
    return (text + " ").repeat(times);
  }

  /** Words that put n on the pile, also where no token can say it. */
  static String number(int n) {
    return n >= -9999 && n <= 9999 ? "" + n : n / 9999 + " 9999 mul " + n % 9999 + " add";
  }
}
