import java.io.IOException;
import java.lang.reflect.Method;
import java.net.URL;
import java.net.URLClassLoader;
import java.nio.file.Files;
import java.nio.file.Path;
import java.util.ArrayList;
import java.util.List;
import java.util.regex.Matcher;
import java.util.regex.Pattern;
import javax.tools.JavaCompiler;
import javax.tools.ToolProvider;

/**
 * README.md's example: it compiles as it stands there, and each of its calls answers the number told behind it.
 * An example of which most has gone, or whose form this test no longer finds, fails, too.
 */
public final class ReadmeTest {
  private static final Pattern BLOCK = Pattern.compile("(?s)```java\n(.*?)```");
  private static final Pattern CALL = Pattern.compile("(?m)^( +)(x\\.\\w+\\(.*\\)); +// (-?\\d+)\\b.*$");
  private static final int CALLS_AT_LEAST = 20;

  private static int wrong = 0;

  /** The example calls this in place of its own calls. */
  public static void due(String call, long got, long want) {
    if (got != want) {
      wrong++;
      System.out.println("README.md: " + call + " answered " + got + ", told is " + want);
    }
  }

  private static void must(boolean so, String what) {
    if (!so) {
      wrong++;
      System.out.println("README.md: " + what);
    }
  }

  private static String example(String readme) {
    Matcher block = BLOCK.matcher(readme);
    return block.find() ? block.group(1) : "";
  }

  /** Each call with a number behind it is put into due(..); calls in the example's own helpers have none. */
  private static String withDues(String example, List<String> calls) {
    Matcher call = CALL.matcher(example);
    StringBuilder text = new StringBuilder();
    while (call.find()) {
      calls.add(call.group(2));
      String due = "ReadmeTest.due(\"" + call.group(2) + "\", " + call.group(2) + ", " + call.group(3) + "L);";
      call.appendReplacement(text, Matcher.quoteReplacement(call.group(1) + due));
    }
    call.appendTail(text);
    return text.toString();
  }

  private static boolean compiles(Path folder, String text) throws IOException {
    Path file = folder.resolve("Example.java");
    Files.writeString(file, text);
    JavaCompiler javac = ToolProvider.getSystemJavaCompiler();
    return javac.run(null, null, null, "-cp", System.getProperty("java.class.path"), "-d", folder.toString(),
        file.toString()) == 0;
  }

  private static void run(Path folder) throws IOException, ReflectiveOperationException {
    try (URLClassLoader loader = new URLClassLoader(new URL[] {folder.toUri().toURL()})) {
      Method main = loader.loadClass("Example").getDeclaredMethod("main", String[].class);
      main.setAccessible(true);
      main.invoke(null, (Object) new String[0]);
    }
  }

  private static void clear(Path folder) throws IOException {
    try (var files = Files.list(folder)) {
      for (Path file : files.toList()) Files.delete(file);
    }
    Files.delete(folder);
  }

  public static void main(String[] args) throws IOException, ReflectiveOperationException {
    String readme = Files.readString(Path.of(args.length > 0 ? args[0] : ".").resolve("README.md"));
    List<String> calls = new ArrayList<>();
    String example = example(readme);
    String text = withDues(example, calls);
    Path folder = Files.createTempDirectory("readme");
    try {
      must(calls.size() >= CALLS_AT_LEAST, "the example has " + calls.size() + " calls with an answer");
      boolean asItStands = compiles(folder, example);
      must(asItStands, "the example does not compile");
      if (asItStands && compiles(folder, text)) run(folder);
    } finally {
      clear(folder);
    }
    must(readme.contains(".ci/run"), "how the tests are run is not told");
    System.out.println("ReadmeTest: " + calls.size() + " calls of README.md, " + wrong + " wrong");
    if (wrong != 0) System.exit(1);
  }
}
