import java.lang.reflect.InvocationTargetException;
import java.lang.reflect.Method;
import java.util.HashMap;
import java.util.Map;

/** Calls told as text: "grow(0, 1, 9)", "cut(3, true)", "lay(0, min, max)". */
final class Calls {
  private record Call(Method method, Object[] arguments) {}

  private static final Map<String, Call> KNOWN = new HashMap<>();

  private Calls() {}

  static long ask(AspenLine x, String call) {
    Call known = KNOWN.computeIfAbsent(call, Calls::parsed);
    try {
      return ((Number) known.method.invoke(x, known.arguments)).longValue();
    } catch (InvocationTargetException e) {
      throw new IllegalStateException(call + " threw " + e.getCause(), e.getCause());
    } catch (IllegalAccessException e) {
      throw new IllegalStateException(e);
    }
  }

  private static Call parsed(String call) {
    int open = call.indexOf('(');
    String inside = call.substring(open + 1, call.indexOf(')'));
    String[] words = inside.isEmpty() ? new String[0] : inside.split(", *");
    for (Method m : AspenLine.class.getMethods()) {
      if (m.getName().equals(call.substring(0, open)) && m.getParameterCount() == words.length) {
        Object[] arguments = new Object[words.length];
        for (int i = 0; i < words.length; i++) {
          arguments[i] = m.getParameterTypes()[i] == boolean.class ? (Object) Boolean.valueOf(words[i]) : number(words[i]);
        }
        return new Call(m, arguments);
      }
    }
    throw new IllegalArgumentException(call);
  }

  private static Integer number(String word) {
    return switch (word) {
      case "min" -> Integer.MIN_VALUE;
      case "max" -> Integer.MAX_VALUE;
      default -> Integer.valueOf(word);
    };
  }
}
