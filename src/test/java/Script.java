import java.lang.reflect.Constructor;
import java.lang.reflect.InvocationTargetException;
import java.lang.reflect.Method;
import java.util.HashMap;
import java.util.Map;

/**
 * Makes the calls that a text tells, on a new object of a class: "line LP000; person(0, 5) = OUTSIDE".
 *
 * <pre>
 *   name(..)          a call whose answer is not looked at
 *   name(..) = due    a call and the answer that is due: a number, or a constant of the document
 *   text LETTERS      THE TEXT is these letters (wipe, and a write for each)
 *   line LETTERS      the same, and THE LINE is made of it
 * </pre>
 *
 * MIN and MAX are the least and the greatest number of a parameter's type.
 */
final class Script {
  private static final int MOST_CALLS = 512;
  private static final Map<String, Long> WORDS =
      Map.of("UNKNOWN", -1L, "OUTSIDE", -2L, "STATE", -3L, "FULL", -4L, "NONE", -9L);

  private final Map<String, Method> methods = new HashMap<>();
  private final Object object;
  private int calls = 0;

  Script(Class<?> type) throws ReflectiveOperationException {
    for (Method method : type.getDeclaredMethods()) {
      methods.put(method.getName(), method);
    }
    Constructor<?> constructor = type.getDeclaredConstructor();
    object = constructor.newInstance();
  }

  /** What was not as due first, or null. */
  static String wrongIn(Class<?> type, String run) throws ReflectiveOperationException {
    return new Script(type).play(run);
  }

  /** What a call changed in a probe made behind it, or null; if the call is not as due, that. */
  static String changedBy(Class<?> type, String setUp, String call, String probe) throws ReflectiveOperationException {
    Script with = new Script(type);
    Script without = new Script(type);
    String wrong = with.play(setUp);
    wrong = wrong == null ? without.play(setUp) : wrong;
    wrong = wrong == null ? with.play(call) : wrong;
    if (wrong != null) {
      return wrong;
    }
    for (String look : steps(probe)) {
      Object first = with.answer(look);
      Object second = without.answer(look);
      if (!first.equals(second)) {
        return "behind " + call + " " + look + " answers " + first + ", without it " + second;
      }
    }
    return null;
  }

  private static String[] steps(String run) {
    return run.trim().split("\\s*;\\s*");
  }

  private String play(String run) throws ReflectiveOperationException {
    for (String step : steps(run)) {
      String wrong = playStep(step);
      if (wrong != null) {
        return wrong;
      }
    }
    return null;
  }

  private String playStep(String step) throws ReflectiveOperationException {
    if (step.startsWith("text ") || step.startsWith("line ")) {
      answer("wipe()");
      for (char letter : step.substring(5).toCharArray()) {
        answer("write(" + (int) letter + ")");
      }
      return step.startsWith("text ") || number(answer("line()")) >= 0 ? null : "no LINE: " + step;
    }
    String[] sides = step.split("\\s*=\\s*");
    Object got = answer(sides[0]);
    if (sides.length == 1 || got instanceof Number && number(got) == dueOf(sides[1])) {
      return null;
    }
    return "call " + calls + ", " + sides[0] + " answered " + got + ", due is " + sides[1];
  }

  private static long number(Object answer) {
    return answer instanceof Number n ? n.longValue() : Long.MIN_VALUE;
  }

  private static long dueOf(String word) {
    Long named = WORDS.get(word);
    return named != null ? named : Long.parseLong(word);
  }

  /** A number, or the name of what the call threw: no answer that is ever due. */
  private Object answer(String call) throws ReflectiveOperationException {
    calls++;
    if (calls > MOST_CALLS) {
      throw new IllegalStateException("more than " + MOST_CALLS + " calls, at " + call);
    }
    int open = call.indexOf('(');
    Method method = open < 0 ? null : methods.get(call.substring(0, open));
    if (method == null) {
      throw new IllegalStateException("no such call: " + call);
    }
    try {
      return method.invoke(object, arguments(method, call.substring(open + 1, call.length() - 1)));
    } catch (InvocationTargetException thrown) {
      return thrown.getCause().getClass().getName();
    }
  }

  private static Object[] arguments(Method method, String list) {
    Class<?>[] types = method.getParameterTypes();
    String[] words = list.isBlank() ? new String[0] : list.trim().split("\\s*,\\s*");
    if (words.length != types.length) {
      throw new IllegalStateException(method.getName() + " takes " + types.length + ", not (" + list + ")");
    }
    Object[] values = new Object[words.length];
    for (int i = 0; i < words.length; i++) {
      values[i] = argument(types[i], words[i]);
    }
    return values;
  }

  private static Object argument(Class<?> type, String word) {
    if (type == boolean.class) {
      return Boolean.valueOf(word);
    }
    if (type == long.class) {
      return word.equals("MIN") ? Long.MIN_VALUE : word.equals("MAX") ? Long.MAX_VALUE : Long.parseLong(word);
    }
    return word.equals("MIN") ? Integer.MIN_VALUE : word.equals("MAX") ? Integer.MAX_VALUE : Integer.parseInt(word);
  }
}
