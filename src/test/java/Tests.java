import java.lang.reflect.InvocationTargetException;
import java.lang.reflect.Method;
import java.util.Arrays;
import java.util.Comparator;
import java.util.Set;
import java.util.TreeSet;

/** Runs the tests of a class: its methods whose names begin with the promise that they hold, "promise07". */
final class Tests {
  private static final int DIGITS_AT = "promise".length();

  private Tests() {}

  /** Fails, too, if one of the promises from first to last has no test in the class. */
  static void run(Class<?> tests, int first, int last) {
    Check check = new Check();
    run(tests, first, last, check);
    check.close(tests.getName());
  }

  static void run(Class<?> tests, int first, int last, Check check) {
    Set<Integer> promises = new TreeSet<>();
    Method[] all = tests.getDeclaredMethods();
    Arrays.sort(all, Comparator.comparing(Method::getName));
    for (Method test : all) {
      if (test.getName().startsWith("promise")) {
        promises.add(Integer.valueOf(test.getName().substring(DIGITS_AT, DIGITS_AT + 2)));
        check.begin(tests.getName() + "." + test.getName());
        run(test, check);
      }
    }
    for (int promise = first; promise <= last; promise++) {
      check.due(tests.getName() + " has a test of promise " + promise, promises.contains(promise));
    }
  }

  private static void run(Method test, Check check) {
    try {
      test.invoke(null, check);
    } catch (InvocationTargetException e) {
      check.due(test.getName() + " threw " + e.getCause(), false);
    } catch (IllegalAccessException e) {
      throw new IllegalStateException(e);
    }
  }
}
