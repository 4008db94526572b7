import java.nio.charset.StandardCharsets;
import java.nio.file.Files;
import java.nio.file.Path;
import java.util.regex.Matcher;
import java.util.regex.Pattern;

/** What of LANGUAGE.md can be seen from the source's words alone. */
public final class LanguageTest {
  private static int asked;
  private static int wrong;

  private static void none(String source, String what, String pattern) {
    asked++;
    Matcher m = Pattern.compile(pattern).matcher(source);
    if (m.find()) {
      wrong++;
      System.out.println(what + ": " + m.group());
    }
  }

  /** Comments and written texts hold words that are no code. */
  private static String bare(String source) {
    return source.replaceAll("(?s)/\\*.*?\\*/", "").replaceAll("//[^\n]*", "").replaceAll("\"[^\"\n]*\"", "\"\"");
  }

  public static void main(String[] args) throws Exception {
    String file = args.length > 0 ? args[0] : "src/main/java/Plateroomprinter.java";
    String source = Files.readString(Path.of(file), StandardCharsets.UTF_8);
    none(source, "signs 1 to 127", "[^\\x01-\\x7f]");
    String code = bare(source);
    none(code, "package, import", "\\b(package|import)\\b");
    none(code, "lambda, method reference", "->|::");
    none(code, "words left out", "\\b(try|catch|finally|synchronized|assert|volatile|transient|native|goto|var|yield)\\b");
    none(code, "words left out", "\\b(extends|implements|instanceof|record|enum|interface|Object|Thread|Random)\\b");
    none(code, "while has no counter", "\\bwhile\\b|\\bdo\\s*\\{|for\\s*\\(\\s*;");
    none(code, "texts", "\\b(String|StringBuilder|char|float|double)\\b");
    none(code, "a static initialiser", "static\\s*\\{");
    none(code, "static state", "static\\s+(?!final\\b)[\\w\\[\\]]+\\s+\\w+\\s*(=|;)");
    none(code, "exact arithmetic", "\\w+Exact\\b");
    none(code, "library", "\\b(System|Arrays|Math|Integer|Long)\\.(?!arraycopy|max|min|abs|floorDiv|floorMod|bitCount)\\w+");
    none(code, "equality of objects", "\\b(equals|hashCode|toString|getClass)\\b");
    none(code, "exceptions", "throw new (?!IllegalArgumentException|IllegalStateException|IndexOutOfBoundsException)");
    none(code, "a throw that is no new one", "\\bthrow\\s+(?!new\\b)");
    // The room is one for all calls: nothing is made but in constructors and fields.
    none(code.replaceAll("throw new|(?m)^.*\\bfinal\\b.*= new .*$", ""), "made in a call",
        "\\bnew (?!int\\[this\\.most\\]|State\\(\\)|Path\\(\\))");
    System.out.println(asked + " rules looked at, " + wrong + " broken");
    if (wrong != 0) {
      System.exit(1);
    }
  }
}
