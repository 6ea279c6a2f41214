import java.io.IOException;
import java.lang.reflect.Method;
import java.lang.reflect.Modifier;
import java.nio.file.Files;
import java.nio.file.Path;
import java.util.Set;
import java.util.TreeSet;
import java.util.regex.Matcher;
import java.util.regex.Pattern;
import java.util.stream.Stream;

/** README.md tells the truth: its example answers what stands beside it, and its table has every test. */
public final class ReadmeTest {
  private static final Check CHECK = new Check();
  private static final Path README = Path.of("README.md");
  private static final Path TESTS = Path.of("src/test/java");
  private static final Pattern BLOCK = Pattern.compile("```java\n(.*?)```", Pattern.DOTALL);
  private static final Pattern TEXT = Pattern.compile("\"([^\"]*)\"\\.toCharArray\\(\\)");
  private static final Pattern CALL = Pattern.compile("(?m)^line\\.(\\w+)(\\([^)]*\\)); +// (-?\\d+)\\b");

  public static void main(String[] args) throws IOException {
    String readme = Files.readString(README);
    example(readme);
    table(readme);
    CHECK.close("ReadmeTest");
  }

  private static void example(String readme) {
    Matcher block = BLOCK.matcher(readme);
    CHECK.due("README.md has an example", block.find());
    String code = block.group(1);
    Matcher text = TEXT.matcher(code);
    CHECK.due("the example tells a text", text.find());
    AspenLine x = new AspenLine();
    Check.feed(x, text.group(1));
    Set<String> shown = new TreeSet<>(Set.of("feed"));
    Matcher call = CALL.matcher(code);
    while (call.find()) {
      CHECK.due(x, call.group(1) + call.group(2), Long.parseLong(call.group(3)));
      shown.add(call.group(1));
    }
    CHECK.due("the example shows each call: " + shown, shown.equals(face()));
    long lines = code.lines().filter(l -> l.startsWith("line.")).count();
    CHECK.due("each call of the example tells its answer", CALL.matcher(code).results().count(), lines);
  }

  private static Set<String> face() {
    Set<String> names = new TreeSet<>();
    for (Method m : AspenLine.class.getDeclaredMethods()) {
      if (Modifier.isPublic(m.getModifiers())) {
        names.add(m.getName());
      }
    }
    return names;
  }

  private static void table(String readme) throws IOException {
    try (Stream<Path> files = Files.list(TESTS)) {
      for (Path file : files.toList()) {
        String name = file.getFileName().toString().replace(".java", "");
        CHECK.due("README.md tells of " + name, Pattern.compile("\\b" + name + "\\b").matcher(readme).find());
      }
    }
  }
}
