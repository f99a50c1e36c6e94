import java.io.ByteArrayOutputStream;
import java.io.IOException;
import java.net.URI;
import java.nio.file.Files;
import java.nio.file.Path;
import java.util.HashMap;
import java.util.List;
import java.util.Map;
import javax.tools.FileObject;
import javax.tools.ForwardingJavaFileManager;
import javax.tools.JavaCompiler;
import javax.tools.JavaFileManager;
import javax.tools.JavaFileObject;
import javax.tools.SimpleJavaFileObject;
import javax.tools.ToolProvider;

/**
 * Every edge's own runs fail if its sentence is broken: each break is made in a copy of the class,
 * and the edge must notice. A break whose place is not found any more must be told anew.
 */
public final class BrokenTest {
  private static final Check CHECK = new Check("BrokenTest");
  private static final Path SOURCE = Path.of("src/main/java/PunchedTicket.java");

  public static void main(String[] args) throws IOException, ReflectiveOperationException {
    String source = Files.readString(SOURCE);
    for (Edge edge : Edges.all()) {
      for (Edge.Break change : edge.breaks) {
        String what = "\"" + edge.sentence + "\", broken behind " + change.anchor() + ": " + change.from() + " -> " + change.to();
        String broken = broken(source, change);
        CHECK.holds("the place of " + what, broken != null);
        Class<?> type = broken == null ? null : compiled(broken);
        CHECK.holds("it compiles, " + what, type != null);
        CHECK.holds("it is noticed, " + what, type != null && edge.wrongIn(type) != null);
      }
    }
    CHECK.end();
  }

  /** The source with the break, or null. The anchor stands once, and what is broken in the lines right behind it. */
  private static String broken(String source, Edge.Break change) {
    int anchor = source.indexOf(change.anchor());
    if (anchor < 0 || source.indexOf(change.anchor(), anchor + 1) >= 0) {
      return null;
    }
    int end = source.indexOf("\n\n", anchor);
    int place = source.indexOf(change.from(), anchor);
    if (place < 0 || end >= 0 && place >= end) {
      return null;
    }
    return source.substring(0, place) + change.to() + source.substring(place + change.from().length());
  }

  private static Class<?> compiled(String source) throws ReflectiveOperationException {
    JavaCompiler compiler = ToolProvider.getSystemJavaCompiler();
    Map<String, ByteArrayOutputStream> classes = new HashMap<>();
    JavaFileManager files = new ForwardingJavaFileManager<JavaFileManager>(compiler.getStandardFileManager(null, null, null)) {
      @Override
      public JavaFileObject getJavaFileForOutput(Location location, String name, JavaFileObject.Kind kind, FileObject sibling) {
        return new SimpleJavaFileObject(URI.create("memory:///" + name), kind) {
          @Override
          public ByteArrayOutputStream openOutputStream() {
            return classes.computeIfAbsent(name, key -> new ByteArrayOutputStream());
          }
        };
      }
    };
    JavaFileObject file = new SimpleJavaFileObject(URI.create("memory:///PunchedTicket.java"), JavaFileObject.Kind.SOURCE) {
      @Override
      public CharSequence getCharContent(boolean ignored) {
        return source;
      }
    };
    boolean done = compiler.getTask(null, files, null, List.of("-proc:none"), null, List.of(file)).call();
    return done ? new Memory(classes).loadClass("PunchedTicket") : null;
  }

  /** Gives the classes it was made with ahead of those of the same names elsewhere. */
  private static final class Memory extends ClassLoader {
    private final Map<String, ByteArrayOutputStream> classes;

    Memory(Map<String, ByteArrayOutputStream> classes) {
      super(BrokenTest.class.getClassLoader());
      this.classes = classes;
    }

    @Override
    protected Class<?> loadClass(String name, boolean resolve) throws ClassNotFoundException {
      if (!classes.containsKey(name)) {
        return super.loadClass(name, resolve);
      }
      Class<?> loaded = findLoadedClass(name);
      byte[] bytes = classes.get(name).toByteArray();
      return loaded != null ? loaded : defineClass(name, bytes, 0, bytes.length);
    }
  }
}
