import java.io.IOException;
import java.lang.reflect.Method;
import java.lang.reflect.Modifier;
import java.net.URL;
import java.net.URLClassLoader;
import java.nio.file.Files;
import java.nio.file.Path;
import java.util.ArrayList;
import java.util.List;
import java.util.regex.Matcher;
import java.util.regex.Pattern;
import java.util.stream.Stream;
import javax.tools.JavaCompiler;
import javax.tools.ToolProvider;

/**
 * What README.md shows of the use of the class holds as it stands there: each block of Java is compiled and run,
 * and each call in it answers the number behind its "//". Run from the project's folder.
 */
public final class ReadmeTest {
  private static final Check CHECK = new Check("ReadmeTest");
  private static final Pattern BLOCK = Pattern.compile("(?s)```java\n(.*?)```");
  private static final Pattern CALL = Pattern.compile("(?m)^( *)(x\\.\\w+\\([^;\n]*\\)); *// (-?\\d+)(:.*)?$");
  private static final int FEWEST_BLOCKS = 5;

  /** Called by the compiled blocks. */
  public static void due(String call, long got, long want) {
    CHECK.due(call, got, want);
  }

  public static void main(String[] args) throws Exception {
    String page = Files.readString(Path.of("README.md"));
    List<String> blocks = new ArrayList<>();
    Matcher m = BLOCK.matcher(page);
    while (m.find()) {
      blocks.add(m.group(1));
    }
    CHECK.holds("the page shows the use of the class", blocks.size() >= FEWEST_BLOCKS);
    Path folder = Files.createTempDirectory("readme");
    try {
      for (int i = 0; i < blocks.size(); i++) {
        runBlock(folder, "Block" + i, blocks.get(i));
      }
    } finally {
      deleteAll(folder);
    }
    String shown = String.join("\n", blocks);
    everyAnswerIsTold(shown);
    everyCallIsShown(page, shown);
    everyTestIsNamed(page);
    CHECK.finish();
  }

  private static void runBlock(Path folder, String name, String block) throws Exception {
    Path source = folder.resolve(name + ".java");
    Files.writeString(source, "public final class " + name + " {\n  public static void main(String[] args) {\n"
        + CALL.matcher(block).replaceAll("$1ReadmeTest.due(\"" + name + ": $2\", $2, $3L);") + "  }\n}\n");
    JavaCompiler javac = ToolProvider.getSystemJavaCompiler();
    CHECK.holds("there is a compiler", javac != null);
    if (javac == null) {
      return;
    }
    int failed = javac.run(null, null, null, "--release", "17", "-cp", System.getProperty("java.class.path"),
        "-d", folder.toString(), source.toString());
    CHECK.due(name + " is compiled", failed, 0);
    if (failed == 0) {
      try (URLClassLoader loader = new URLClassLoader(new URL[] {folder.toUri().toURL()})) {
        loader.loadClass(name).getMethod("main", String[].class).invoke(null, (Object) new String[0]);
      }
    }
  }

  /** A call without a number behind it would not be looked at; only letters in a loop have none. */
  private static void everyAnswerIsTold(String shown) {
    for (String line : shown.split("\n")) {
      boolean isCall = line.trim().startsWith("x.") && !line.equals("  x.letter(c);");
      CHECK.holds("it is told what this answers: " + line, !isCall || CALL.matcher(line).matches());
    }
  }

  private static void everyCallIsShown(String page, String shown) {
    for (Method m : ClosuresThatBounce.class.getDeclaredMethods()) {
      if (Modifier.isPublic(m.getModifiers())) {
        CHECK.holds(m.getName() + " is shown", shown.contains("x." + m.getName() + "("));
        CHECK.holds(m.getName() + " is in the table", page.contains("`" + m.getName() + "`"));
      }
    }
  }

  private static void everyTestIsNamed(String page) throws IOException {
    try (Stream<Path> files = Files.list(Path.of("src/test/java"))) {
      for (Path file : (Iterable<Path>) files::iterator) {
        String name = file.getFileName().toString().replace(".java", "");
        CHECK.holds(name + " is named", !name.endsWith("Test") || page.contains(name));
      }
    }
  }

  private static void deleteAll(Path folder) throws IOException {
    try (Stream<Path> files = Files.list(folder)) {
      for (Path file : (Iterable<Path>) files::iterator) {
        Files.delete(file);
      }
    }
    Files.delete(folder);
  }
}
