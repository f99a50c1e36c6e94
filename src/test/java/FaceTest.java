import java.io.IOException;
import java.lang.reflect.Constructor;
import java.lang.reflect.Field;
import java.lang.reflect.Method;
import java.lang.reflect.Modifier;
import java.nio.file.Files;
import java.nio.file.Path;
import java.util.Arrays;
import java.util.List;
import java.util.Set;
import java.util.TreeSet;
import java.util.regex.Matcher;
import java.util.regex.Pattern;

/** The public face of the document, and rule 1, 5 and 11 of LANGUAGE.md as far as the class shows them. */
public final class FaceTest {
  private static final Check CHECK = new Check("FaceTest");

  private static final Set<Class<?>> CONSTANTS = Set.of(
      int.class, long.class, boolean.class, char.class, String.class,
      int[].class, long[].class, char[].class, byte[].class);
  private static final Path DOCUMENT = Path.of("../shared/DOC.md");
  private static final Path SOURCE = Path.of("src/main/java/PunchedTicket.java");

  public static void main(String[] args) throws IOException, ReflectiveOperationException {
    List<String> face = faceOf(Files.readString(DOCUMENT));
    declarations(face, Files.readString(SOURCE));
    constants();
    members(face);
    for (Class<?> inner : PunchedTicket.class.getDeclaredClasses()) {
      CHECK.holds(inner + " is static", Modifier.isStatic(inner.getModifiers()));
      CHECK.holds(inner + " is not public", (inner.getModifiers() & (Modifier.PUBLIC | Modifier.PROTECTED)) == 0);
      sizes(inner);
    }
    sizes(PunchedTicket.class);
    CHECK.end();
  }

  /** The lines of the document's face, without what ends them. */
  private static List<String> faceOf(String document) {
    Matcher block = Pattern.compile("(?s)## The public face\\s+```java\n(.*?)\n}\n```").matcher(document);
    CHECK.holds("the document has a face", block.find());
    return block.group(1).lines().map(line -> line.trim().replaceAll("(;| \\{)$", "")).toList();
  }

  /** The class is told as the document tells it, with the same names of parameters. */
  private static void declarations(List<String> face, String source) {
    CHECK.due("lines of the face", face.size(), 32);
    for (String line : face) {
      CHECK.holds("the source says: " + line, source.contains(line + " {\n") || source.contains(line + ";\n"));
    }
  }

  /** "public int where(int person, int day)" as reflection tells it: "int where(int, int)". */
  private static String withoutNames(String line) {
    return line.replace("public ", "").replaceAll("(int|long|boolean) \\w+(?=[,)])", "$1");
  }

  private static void constants() throws ReflectiveOperationException {
    CHECK.due("UNKNOWN", PunchedTicket.UNKNOWN, -1);
    CHECK.due("OUTSIDE", PunchedTicket.OUTSIDE, -2);
    CHECK.due("STATE", PunchedTicket.STATE, -3);
    CHECK.due("FULL", PunchedTicket.FULL, -4);
    CHECK.due("NONE", PunchedTicket.NONE, -9);
    TreeSet<String> open = new TreeSet<>();
    for (Field field : PunchedTicket.class.getDeclaredFields()) {
      if (!Modifier.isPrivate(field.getModifiers())) {
        open.add(Modifier.toString(field.getModifiers()) + " " + field.getType() + " " + field.getName());
      }
    }
    String start = "public static final int ";
    CHECK.holds("only these constants are open: " + open, open.equals(new TreeSet<>(List.of(
        start + "UNKNOWN", start + "OUTSIDE", start + "STATE", start + "FULL", start + "NONE"))));
  }

  private static String told(Method method) {
    String types = Arrays.toString(Arrays.stream(method.getParameterTypes()).map(Class::getName).toArray());
    return method.getReturnType() + " " + method.getName() + "(" + types.substring(1, types.length() - 1) + ")";
  }

  private static void members(List<String> face) {
    int modifiers = PunchedTicket.class.getModifiers();
    CHECK.holds("the class is public and final", Modifier.isPublic(modifiers) && Modifier.isFinal(modifiers));
    Constructor<?>[] constructors = PunchedTicket.class.getDeclaredConstructors();
    CHECK.due("constructors", constructors.length, 1);
    CHECK.holds("it is public and empty",
        Modifier.isPublic(constructors[0].getModifiers()) && constructors[0].getParameterCount() == 0);
    TreeSet<String> open = new TreeSet<>();
    TreeSet<String> publicNames = new TreeSet<>();
    for (Method method : PunchedTicket.class.getDeclaredMethods()) {
      if (!Modifier.isPrivate(method.getModifiers())) {
        open.add(told(method));
        publicNames.add(method.getName());
        CHECK.holds(told(method) + " is public", Modifier.isPublic(method.getModifiers()));
        CHECK.holds(told(method) + " is no static one", !Modifier.isStatic(method.getModifiers()));
      }
    }
    TreeSet<String> told = new TreeSet<>();
    for (String line : face) {
      if (line.matches("public (int|long) \\w+\\(.*")) {
        told.add(withoutNames(line));
      }
    }
    CHECK.due("methods of the document", told.size(), 29);
    CHECK.holds("the methods are those of the document: " + open, open.equals(told));
    for (Method method : PunchedTicket.class.getDeclaredMethods()) {
      if (Modifier.isPrivate(method.getModifiers())) {
        CHECK.holds("a private method named " + method.getName(), !publicNames.contains(method.getName()));
      }
    }
  }

  private static void sizes(Class<?> type) {
    int fields = 0;
    for (Field field : type.getDeclaredFields()) {
      if (Modifier.isStatic(field.getModifiers())) {
        CHECK.holds(field + " is final", Modifier.isFinal(field.getModifiers()));
        CHECK.holds(field + " is a constant", CONSTANTS.contains(field.getType()));
      } else {
        fields++;
      }
    }
    CHECK.holds(type + " has twenty fields at most", fields <= 20);
    for (Method method : type.getDeclaredMethods()) {
      CHECK.holds(method + " has seven parameters at most", method.getParameterCount() <= 7);
    }
  }
}
