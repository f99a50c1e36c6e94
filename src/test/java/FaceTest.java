import java.lang.reflect.Constructor;
import java.lang.reflect.Field;
import java.lang.reflect.Method;
import java.lang.reflect.Modifier;
import java.util.Arrays;
import java.util.List;
import java.util.TreeSet;

/** The public face of the document, and rule 1, 5 and 11 of LANGUAGE.md as far as the class shows them. */
public final class FaceTest {
  private static final Check CHECK = new Check("FaceTest");

  private static final List<String> FACE = List.of(
      "int again(int)", "int bestChange()", "int blank(int, int)", "int change(int, int)", "int count(int)",
      "int day()", "int falls(int)", "int fault()", "int fewest(int, int, boolean)", "int give(int, int)",
      "int glad()", "int held(int)", "int keep(int)", "int line()", "int lose(int)",
      "int losses(int, int, int, boolean)", "int meet(int, int)", "int person(int, int)", "int see(int, int, int)",
      "int share(int, boolean)", "int ticket(int, int)", "int twoSeats()", "int undo()", "int unsee()",
      "int where(int, int)", "int wipe()", "int write(int)", "int years(int)", "long seed(long)");

  public static void main(String[] args) throws ReflectiveOperationException {
    constants();
    members();
    for (Class<?> inner : PunchedTicket.class.getDeclaredClasses()) {
      CHECK.holds(inner + " is static", Modifier.isStatic(inner.getModifiers()));
      CHECK.holds(inner + " is not public", (inner.getModifiers() & (Modifier.PUBLIC | Modifier.PROTECTED)) == 0);
      sizes(inner);
    }
    sizes(PunchedTicket.class);
    CHECK.end();
  }

  private static void constants() throws ReflectiveOperationException {
    CHECK.due("UNKNOWN", PunchedTicket.UNKNOWN, -1);
    CHECK.due("OUTSIDE", PunchedTicket.OUTSIDE, -2);
    CHECK.due("STATE", PunchedTicket.STATE, -3);
    CHECK.due("FULL", PunchedTicket.FULL, -4);
    CHECK.due("NONE", PunchedTicket.NONE, -9);
    TreeSet<String> open = new TreeSet<>();
    for (Field field : PunchedTicket.class.getDeclaredFields()) {
      if (!Modifier.isPrivate(field.getModifiers())) {
        open.add(Modifier.toString(field.getModifiers()) + " " + field.getType() + " " + field.getName());
      }
    }
    String start = "public static final int ";
    CHECK.holds("only these constants are open: " + open, open.equals(new TreeSet<>(List.of(
        start + "UNKNOWN", start + "OUTSIDE", start + "STATE", start + "FULL", start + "NONE"))));
  }

  private static String told(Method method) {
    String types = Arrays.toString(Arrays.stream(method.getParameterTypes()).map(Class::getName).toArray());
    return method.getReturnType() + " " + method.getName() + "(" + types.substring(1, types.length() - 1) + ")";
  }

  private static void members() {
    int modifiers = PunchedTicket.class.getModifiers();
    CHECK.holds("the class is public and final", Modifier.isPublic(modifiers) && Modifier.isFinal(modifiers));
    Constructor<?>[] constructors = PunchedTicket.class.getDeclaredConstructors();
    CHECK.due("constructors", constructors.length, 1);
    CHECK.holds("it is public and empty",
        Modifier.isPublic(constructors[0].getModifiers()) && constructors[0].getParameterCount() == 0);
    TreeSet<String> open = new TreeSet<>();
    TreeSet<String> publicNames = new TreeSet<>();
    for (Method method : PunchedTicket.class.getDeclaredMethods()) {
      if (!Modifier.isPrivate(method.getModifiers())) {
        open.add(told(method));
        publicNames.add(method.getName());
        CHECK.holds(told(method) + " is public", Modifier.isPublic(method.getModifiers()));
        CHECK.holds(told(method) + " is no static one", !Modifier.isStatic(method.getModifiers()));
      }
    }
    CHECK.holds("the methods are those of the document: " + open, open.equals(new TreeSet<>(FACE)));
    for (Method method : PunchedTicket.class.getDeclaredMethods()) {
      if (Modifier.isPrivate(method.getModifiers())) {
        CHECK.holds("a private method named " + method.getName(), !publicNames.contains(method.getName()));
      }
    }
  }

  private static void sizes(Class<?> type) {
    int fields = 0;
    for (Field field : type.getDeclaredFields()) {
      if (Modifier.isStatic(field.getModifiers())) {
        CHECK.holds(field + " is final", Modifier.isFinal(field.getModifiers()));
      } else {
        fields++;
      }
    }
    CHECK.holds(type + " has twenty fields at most", fields <= 20);
    for (Method method : type.getDeclaredMethods()) {
      CHECK.holds(method + " has seven parameters at most", method.getParameterCount() <= 7);
    }
  }
}
