import java.io.IOException;
import java.nio.file.Files;
import java.nio.file.Path;
import java.util.regex.Matcher;
import java.util.regex.Pattern;

/** What can be seen in the source of LANGUAGE.md's rules; run from the project's folder. */
public final class LanguageTest {
  private static final Check CHECK = new Check("LanguageTest");
  private static final int LONGEST_METHOD = 60;

  public static void main(String[] args) throws IOException {
    String source = Files.readString(Path.of("src/main/java/ClosuresThatBounce.java"));
    String bare = source.replaceAll("(?s)/\\*.*?\\*/", "").replaceAll("//[^\n]*", "")
        .replaceAll("\"[^\"\n]*\"", "\"\"").replaceAll("'[^'\n]'", "' '");
    for (String word : new String[] {"throw", "throws", "try", "catch", "finally", "synchronized", "assert", "package",
        "import", "protected", "native", "transient", "volatile", "equals", "hashCode", "toString", "var", "yield"}) {
      CHECK.due("the word " + word, found(bare, "\\b" + word + "\\b"), 0);
    }
    CHECK.due("lambdas and arrows", found(bare, "->"), 0);
    CHECK.due("method references", found(bare, "::"), 0);
    CHECK.due("functions that throw", found(bare, "Exact\\b"), 0);
    CHECK.due("what is taken of the library beside what rule 4 lists",
        found(bare, "\\b(Integer|Long|Math|System|String|Arrays)\\.(?!(bitCount|min|max|arraycopy)\\()"), 0);
    CHECK.due("static blocks", found(bare, "static\\s*\\{"), 0);
    CHECK.due("rows read or written without a look at the index", found(bare, "\\w\\[[^\\]]+\\]"),
        found(bare, "new int\\[[^\\]]+\\]") + 5);
    CHECK.due("objects are made where fields are declared alone", found(bare, "\\bnew\\b"),
        found(bare, "(?m)^ *(private |final )+\\S+ \\w+ = new |^ *private \\S+ \\w+ = new "));
    for (int i = 0; i < source.length(); i++) {
      char c = source.charAt(i);
      CHECK.holds("sign " + (int) c, c == '\n' || c >= 32 && c < 127);
    }
    lengths(source);
    CHECK.finish();
  }

  private static int found(String text, String pattern) {
    Matcher m = Pattern.compile(pattern).matcher(text);
    int n = 0;
    while (m.find()) {
      n++;
    }
    return n;
  }

  private static void lengths(String source) {
    String[] lines = source.split("\n");
    for (int i = 0; i < lines.length; i++) {
      CHECK.holds("line " + (i + 1) + " is short", lines[i].length() <= 120);
      if (!lines[i].matches(" +(?!class)[^=]*\\) \\{") || lines[i].matches(" +(if|for|while|switch|\\}).*")) {
        continue;
      }
      String end = lines[i].replaceAll("\\S.*", "") + "}";
      int j = i;
      while (j < lines.length && !lines[j].equals(end)) {
        j++;
      }
      CHECK.holds("the method of line " + (i + 1) + " is short", j - i < LONGEST_METHOD);
    }
  }
}
