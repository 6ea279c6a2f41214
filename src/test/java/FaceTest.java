import java.io.IOException;
import java.lang.management.ManagementFactory;
import java.lang.reflect.Constructor;
import java.lang.reflect.Field;
import java.lang.reflect.Method;
import java.lang.reflect.Modifier;
import java.nio.file.Files;
import java.nio.file.Path;
import java.util.ArrayList;
import java.util.List;
import java.util.Set;
import java.util.TreeSet;
import java.util.regex.Matcher;
import java.util.regex.Pattern;

/** The face as the document tells it, the rules of LANGUAGE.md that can be seen from outside, and the room. */
public final class FaceTest {
  private static final Check CHECK = new Check();
  private static final Path SOURCE = Path.of("src/main/java/AspenLine.java");
  private static final int LONGEST_METHOD = 60;

  private static final String[] FACE = {
    "int feed(int)", "int end(int)", "int text()", "int fault()", "int rule(int)", "int tree(int,int)",
    "int root(int,int)", "int talk(int,int)", "int far(int,int)", "int loud(int,int,int)", "int graft(int,int)",
    "int stretch(int,int)", "int grow(int,int,int)", "int cut(int,boolean)", "int wind(int)", "int book(int,int,int)",
    "int shift(int,int,int)", "int drop(int)", "int hears(int,int)", "int crossed(int,int)", "int least(int,int)",
    "int just(int,int)", "int from(int,int)", "int hush(int,int,int,int)", "int join(int,int,int,int)",
    "int dear(int)", "int hour(int,int)", "int kind(int,int)", "int calm()", "long luck(int,int,int,int,int)",
    "long mean(int,int,int,int)", "int see(int,int)", "int forget(int)", "int sayers()", "int breaths(int,int)",
    "int kinds(int)", "int ask(int)", "int drift(int,int,int)", "int keep(int)", "int back(int)",
    "int sheet(int,int,int)", "int lay(int,int,int)", "int read(int,int,int,int)", "int torn()", "int count(int)",
  };

  public static void main(String[] args) throws Exception {
    constants();
    face();
    inside();
    words();
    methodLengths();
    room();
    CHECK.close("FaceTest");
  }

  private static void constants() {
    CHECK.due("BAD", AspenLine.BAD, -1);
    CHECK.due("STATE", AspenLine.STATE, -2);
    CHECK.due("FULL", AspenLine.FULL, -3);
    CHECK.due("NONE", AspenLine.NONE, -4);
  }

  private static String signature(Method m) {
    List<String> types = new ArrayList<>();
    for (Class<?> type : m.getParameterTypes()) {
      types.add(type.getName());
    }
    return m.getReturnType().getName() + " " + m.getName() + "(" + String.join(",", types) + ")";
  }

  private static void face() {
    Class<?> c = AspenLine.class;
    CHECK.due("public and final", Modifier.isPublic(c.getModifiers()) && Modifier.isFinal(c.getModifiers()));
    Set<String> due = new TreeSet<>(List.of(FACE));
    Set<String> names = new TreeSet<>();
    for (String line : FACE) {
      names.add(line.substring(line.indexOf(' ') + 1, line.indexOf('(')));
    }
    Set<String> shown = new TreeSet<>();
    for (Method m : c.getDeclaredMethods()) {
      if (Modifier.isPublic(m.getModifiers())) {
        shown.add(signature(m));
      } else {
        CHECK.due(m + " is private", Modifier.isPrivate(m.getModifiers()));
        CHECK.due(m + " bears no name of the face", !names.contains(m.getName()));
      }
    }
    CHECK.due("the methods: " + shown, shown.equals(due));
    for (Field f : c.getDeclaredFields()) {
      boolean constant = Modifier.isPublic(f.getModifiers()) && List.of("BAD", "STATE", "FULL", "NONE").contains(f.getName());
      CHECK.due(f + " is private or of the face", constant || Modifier.isPrivate(f.getModifiers()));
    }
    CHECK.due("constructors", c.getDeclaredConstructors().length, 1);
    for (Constructor<?> made : c.getDeclaredConstructors()) {
      CHECK.due(made + " is public", Modifier.isPublic(made.getModifiers()) && made.getParameterCount() == 0);
    }
  }

  private static void inside() {
    Class<?>[] inside = AspenLine.class.getDeclaredClasses();
    CHECK.due("classes in the file: " + (inside.length + 1), inside.length + 1 <= 12);
    List<Class<?>> all = new ArrayList<>(List.of(inside));
    all.add(AspenLine.class);
    for (Class<?> c : all) {
      int fields = 0;
      for (Field f : c.getDeclaredFields()) {
        if (Modifier.isStatic(f.getModifiers())) {
          CHECK.due(f + " is final", Modifier.isFinal(f.getModifiers()));
        } else {
          fields++;
        }
      }
      CHECK.due("fields of " + c + ": " + fields, fields <= 20);
      for (Method m : c.getDeclaredMethods()) {
        CHECK.due("parameters of " + m, m.getParameterCount() <= 7);
        CHECK.due(m + " is no method of an Object",
            !List.of("equals", "hashCode", "toString", "finalize").contains(m.getName()));
      }
      if (c != AspenLine.class) {
        CHECK.due(c + " is static", Modifier.isStatic(c.getModifiers()));
        CHECK.due(c + " is not public", !Modifier.isPublic(c.getModifiers()) && !Modifier.isProtected(c.getModifiers()));
      }
    }
  }

  private static String sourceWithoutComments() throws IOException {
    return Files.readString(SOURCE).replaceAll("(?s)/\\*.*?\\*/", "").replaceAll("//[^\n]*", "");
  }

  private static void words() throws IOException {
    String source = sourceWithoutComments();
    String[] barred = {
      "\\bthrow\\b", "\\bthrows\\b", "\\btry\\b", "\\bcatch\\b", "\\bfinally\\b", "\\bsynchronized\\b", "\\bassert\\b",
      "->", "::", "\\bvar\\b", "\\bpackage\\b", "Exact\\b", "\"\\s*\\+", "\\+\\s*\"", "\\bstatic\\s*\\{", "@",
      "\\bRandom\\b", "\\bThread\\b", "currentTimeMillis", "nanoTime", "\\bObject\\b", "\\binstanceof\\b",
    };
    for (String word : barred) {
      Matcher m = Pattern.compile(word).matcher(source);
      CHECK.due("none of " + word, !m.find());
    }
    Matcher imports = Pattern.compile("import ([^;]*);").matcher(source);
    while (imports.find()) {
      CHECK.due("import " + imports.group(1), List.of("java.util.Arrays", "java.util.ArrayList", "java.util.List")
          .contains(imports.group(1)));
    }
    CHECK.due("other library: " + library(source), library(source).isEmpty());
    CHECK.due("signs 1 to 127", source.chars().allMatch(c -> c >= 1 && c <= 127));
  }

  /** What is named behind a class that is not of the file, and stands not in LANGUAGE.md's list; its constants too. */
  private static Set<String> library(String source) {
    Set<String> own = new TreeSet<>();
    for (Class<?> c : AspenLine.class.getDeclaredClasses()) {
      own.add(c.getSimpleName());
    }
    Set<String> used = new TreeSet<>();
    Matcher named = Pattern.compile("\\b([A-Z]\\w*)\\.(\\w+)").matcher(source);
    while (named.find()) {
      if (!own.contains(named.group(1))) {
        used.add(named.group());
      }
    }
    used.removeAll(List.of("Arrays.fill", "System.arraycopy", "Math.max", "Math.min", "Integer.bitCount"));
    return used;
  }

  private static void methodLengths() throws IOException {
    int start = 0;
    int at = 0;
    for (String line : Files.readAllLines(SOURCE)) {
      at++;
      if (line.matches("( {4}| {8})\\S.*\\) \\{")) {
        start = at;
      } else if (line.matches("( {4}| {8})\\}") && start > 0) {
        CHECK.due("lines from " + start + " on", at - start < LONGEST_METHOD);
        start = 0;
      }
    }
  }

  private static long allocated() {
    return ((com.sun.management.ThreadMXBean) ManagementFactory.getThreadMXBean()).getCurrentThreadAllocatedBytes();
  }

  /** A run has room for some 7.3 million elements; a run of the dearest calls makes none at all. */
  private static void room() {
    long before = allocated();
    AspenLine x = CHECK.told("plain;silver;old;sapling;plain;plain;root 0 1 1;root 1 2 1;root 2 3 1;talk 1 0 60;talk 1 1 60;");
    for (int i = 3; i < 8; i++) {
      x.grow(i % 6, (i + 1) % 6, i);
    }
    long made = allocated() - before;
    CHECK.due("a new object and its text took " + made, made < 1000000);
    before = allocated();
    for (int i = 0; i < 30; i++) {
      x.luck(3, 0, 5, 60, 0);
      x.mean(3, 0, 60, 1);
      x.hush(0, 5, 60, 0);
      x.join(0, 20, 1, 0);
      x.hour(0, 0);
      x.kind(0, 0);
      x.calm();
      x.ask(0);
      x.kinds(0);
      x.drift(i, 60, 0);
      x.keep(0);
      x.back(0);
      x.sheet(0, 2, 40);
      x.read(0, 2, 0, 13);
      x.feed(32);
    }
    CHECK.due("the object is still as it was", x.rule(1), 8);
    CHECK.due("its blanks are a text", x.text(), 0);
    made = allocated() - before;
    CHECK.due("some 480 calls took " + made, made < 1000000);
  }
}
