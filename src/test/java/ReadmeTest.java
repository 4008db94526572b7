import java.io.ByteArrayOutputStream;
import java.io.PrintStream;
import java.nio.charset.StandardCharsets;
import java.nio.file.Files;
import java.nio.file.Path;

/** The example of README.md, as it stands there. */
public final class ReadmeTest {
  private static int wrong;

  private static void example() {
    // README begins
    Plateroomprinter p = new Plateroomprinter();
    p.three(0, 4, 0, 6, 0, 8);    // 4 6 8
    p.three(0, 5, 1, 34, 1, 35);  // 5 box fill: from the corner 4, 6 to 12, 11
    System.out.println(p.run());
    System.out.println(p.count(3) + " dots on the last plate");
    System.out.println(p.dot(4, 6) + " is the set of the plates on which the dot 4, 6 is on");

    p.three(2, 0, 4, 0, 0, 1);    // /0 { 1
    p.three(1, 0, 5, 0, 1, 14);   // add } def: the name 0 is to add 1
    p.three(0, 40, 0, 2, 4, 0);   // 40 2 {
    p.three(3, 0, 5, 0, 1, 18);   // 0 } repeat: the name 0 is done twice
    System.out.println(p.run() + ", on top " + p.item(0, 1));

    p.three(0, 7, 0, 0, 1, 3);    // 7 0 div
    System.out.println(p.run() + " is the fault, at the token " + p.fault(1) + " of " + p.tokens());
    p.wipe();
    try {
      p.token(0, 10000);
    } catch (IllegalArgumentException e) {
      System.out.println("refused, still " + p.tokens());
    }
    // README ends
  }

  private static void due(String what, String got, String want) {
    if (!got.equals(want)) {
      wrong++;
      System.out.println(what + ":\n" + got + "due is:\n" + want);
    }
  }

  /** What stands between two lines, without the indentation of the first of them. */
  private static String between(String text, String first, String last) {
    StringBuilder found = new StringBuilder();
    String indent = null;
    for (String line : text.split("\n")) {
      if (indent == null) {
        indent = line.trim().equals(first) ? line.substring(0, line.indexOf(first)) : null;
      } else if (line.trim().equals(last)) {
        break;
      } else {
        found.append(line.startsWith(indent) ? line.substring(indent.length()) : line).append('\n');
      }
    }
    return found.toString();
  }

  private static String printed() {
    PrintStream screen = System.out;
    ByteArrayOutputStream kept = new ByteArrayOutputStream();
    System.setOut(new PrintStream(kept, true, StandardCharsets.UTF_8));
    try {
      example();
    } finally {
      System.setOut(screen);
    }
    return kept.toString(StandardCharsets.UTF_8).replace("\r", "");
  }

  public static void main(String[] args) throws Exception {
    String readme = Files.readString(Path.of("README.md"), StandardCharsets.UTF_8);
    String test = Files.readString(Path.of("src/test/java/ReadmeTest.java"), StandardCharsets.UTF_8);
    due("example of README.md", between(readme, "```java", "```"), between(test, "// README begins", "// README ends"));
    due("what it prints", printed(), between(readme, "```text", "```"));
    System.out.println(wrong + " differences");
    if (wrong != 0) {
      System.exit(1);
    }
  }
}
