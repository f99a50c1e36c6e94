import java.io.IOException;
import java.lang.reflect.Method;
import java.lang.reflect.Modifier;
import java.nio.file.DirectoryStream;
import java.nio.file.Files;
import java.nio.file.Path;
import java.util.regex.Matcher;
import java.util.regex.Pattern;

/** README.md: its example is one run whose answers are the class's, and no call and no test is left out. */
public final class ReadmeTest {
  private static final Check CHECK = new Check("ReadmeTest");
  private static final Pattern BLOCK = Pattern.compile("(?s)```java\n(.*?)```");
  private static final Pattern TEXT = Pattern.compile("\"(\\w+)\"\\.toCharArray\\(\\)");
  private static final Pattern CALL = Pattern.compile("^x\\.(\\w+\\([^)]*\\)); *// (NONE|-?\\d+):");

  public static void main(String[] args) throws IOException, ReflectiveOperationException {
    String page = Files.readString(Path.of("README.md"));
    String run = exampleOf(page);
    String wrong = Script.wrongIn(PunchedTicket.class, run);
    CHECK.holds("the example is as it says: " + wrong, wrong == null);
    everyCallIsShown(run);
    everyTestIsNamed(page);
    CHECK.end();
  }

  /** All blocks together, as a run for Script. */
  private static String exampleOf(String page) {
    StringBuilder run = new StringBuilder();
    Matcher block = BLOCK.matcher(page);
    while (block.find()) {
      for (String line : block.group(1).split("\n")) {
        Matcher text = TEXT.matcher(line);
        Matcher call = CALL.matcher(line);
        if (text.find()) {
          run.append("text ").append(text.group(1)).append("; ");
        } else if (call.find()) {
          run.append(call.group(1)).append(" = ").append(call.group(2)).append("; ");
        } else {
          CHECK.holds("a line of the example is no call with an answer: " + line,
              line.startsWith("PunchedTicket x = new") || line.startsWith("  x.write(letter);") || line.equals("}"));
        }
      }
    }
    return run.toString();
  }

  private static void everyCallIsShown(String run) {
    for (Method method : PunchedTicket.class.getDeclaredMethods()) {
      // The example writes its text by the word "text", which is a write for each letter.
      String shown = method.getName().equals("write") ? "text " : method.getName() + "(";
      CHECK.holds("the example shows " + method.getName(),
          !Modifier.isPublic(method.getModifiers()) || run.contains(shown));
    }
  }

  private static void everyTestIsNamed(String page) throws IOException {
    try (DirectoryStream<Path> files = Files.newDirectoryStream(Path.of("src/test/java"), "*Test.java")) {
      for (Path file : files) {
        String name = file.getFileName().toString().replace(".java", "");
        CHECK.holds("the page names " + name, page.contains("`" + name + "`"));
      }
    }
  }
}
