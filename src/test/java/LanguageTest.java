import java.io.IOException;
import java.nio.file.Files;
import java.nio.file.Path;
import java.util.List;
import java.util.Map;
import java.util.Set;
import java.util.TreeMap;
import java.util.TreeSet;
import java.util.regex.Matcher;
import java.util.regex.Pattern;

/** LANGUAGE.md as far as the text of the class shows it: words that are ruled out, and lengths. */
public final class LanguageTest {
  private static final Check CHECK = new Check("LanguageTest");
  private static final Path SOURCE = Path.of("src/main/java/PunchedTicket.java");
  private static final Map<String, Set<String>> CALLS = new TreeMap<>();
  private static final List<String> RULED_OUT = List.of(
      "\\bthrow\\b", "\\bthrows\\b", "\\btry\\b", "\\bcatch\\b", "\\bsynchronized\\b", "\\bassert\\b", "->", "::",
      "\\bpackage\\b", "\\bvar\\b", "\\bvolatile\\b", "\\btransient\\b", "\\bnative\\b", "\\bprotected\\b",
      "Exact\\(", "\\bObject\\b", "\\bhashCode\\b", "\\btoString\\b", "static\\s*\\{",
      "System\\.(?!arraycopy)", "\\bThread\\b", "\\bRandom\\b", "Math\\.random", "\\bdouble\\b", "\\bfloat\\b",
      "@");

  public static void main(String[] args) throws IOException {
    String code = withoutComments(Files.readString(SOURCE));
    for (String words : RULED_OUT) {
      Matcher matcher = Pattern.compile(words).matcher(code);
      CHECK.holds(words + " stands nowhere", !matcher.find());
    }
    imports(code);
    library(code);
    divisors(code);
    methodLengths(code);
    for (String name : CALLS.keySet()) {
      CHECK.holds("eight calls deep at most: " + name, depth(name, 1) <= 8);
    }
    Matcher classes = Pattern.compile("\\b(class|record|enum|interface)\\s+\\w+").matcher(code);
    CHECK.holds("twelve classes at most", classes.results().count() <= 12);
    CHECK.holds("only signs 1 to 127", code.chars().allMatch(sign -> sign > 0 && sign < 128));
    CHECK.end();
  }

  private static String withoutComments(String code) {
    return code.replaceAll("(?s)/\\*.*?\\*/", "").replaceAll("//[^\n]*", "");
  }

  private static void imports(String code) {
    Matcher matcher = Pattern.compile("import ([^;]*);").matcher(code);
    while (matcher.find()) {
      String name = matcher.group(1);
      CHECK.holds("import " + name, name.matches("java\\.util\\.(Arrays|ArrayList|List|Iterator)"));
    }
  }

  /** What is not the class's own is used by these names alone: the rest of the library stands nowhere. */
  private static void library(String code) {
    Set<String> own = new TreeSet<>(Set.of("PunchedTicket"));
    Matcher classes = Pattern.compile("\\bclass\\s+(\\w+)").matcher(code);
    while (classes.find()) {
      own.add(classes.group(1));
    }
    Matcher names = Pattern.compile("\\b[A-Z]\\w*[a-z]\\w*(\\.\\w+)?").matcher(code);
    while (names.find()) {
      String name = names.group();
      CHECK.holds("of the library: " + name, own.contains(name) || name.matches(
          "Math\\.(max|min|abs)|(Integer|Long)\\.(bitCount|compare|max|min)|System\\.arraycopy|Arrays\\.(copyOf|copyOfRange|fill)"));
    }
  }

  /** What divides is a constant, or one of those that the lines ahead of it look at. */
  private static void divisors(String code) {
    Matcher matcher = Pattern.compile("[/%]=?\\s*(\\w+)").matcher(code);
    while (matcher.find()) {
      String divisor = matcher.group(1);
      CHECK.holds("divisor " + divisor, divisor.matches("[1-9][0-9]*|[A-Z_]+|common|lesser"));
    }
  }

  private static void methodLengths(String code) {
    String[] lines = code.split("\n", -1);
    for (int start = 0; start < lines.length; start++) {
      Matcher head = Pattern.compile("^( {4,8})[\\w\\[\\]. ]+\\([^;]*\\) \\{$").matcher(lines[start]);
      if (head.find() && !lines[start].trim().matches("(if|for|while|switch|else|do)\\b.*")) {
        int end = start;
        while (end < lines.length && !lines[end].equals(head.group(1) + "}")) {
          end++;
        }
        CHECK.holds("sixty lines at most: " + lines[start].trim(), end - start < 60);
        noteCalls(lines, start, end);
      }
    }
  }

  private static void noteCalls(String[] lines, int start, int end) {
    Set<String> called = CALLS.computeIfAbsent(nameOf(lines[start]), name -> new TreeSet<>());
    for (int line = start + 1; line < end; line++) {
      Matcher call = Pattern.compile("(\\w+)\\(").matcher(lines[line]);
      while (call.find()) {
        if (!call.group(1).matches("if|for|while|switch")) {
          called.add(call.group(1));
        }
      }
    }
  }

  private static String nameOf(String head) {
    Matcher name = Pattern.compile("(\\w+)\\(").matcher(head);
    return name.find() ? name.group(1) : head;
  }

  /** How many calls stand open at once, at most; methods of one name count as one. */
  private static int depth(String name, int guard) {
    int deepest = 0;
    for (String called : CALLS.getOrDefault(name, Set.of())) {
      deepest = Math.max(deepest, guard > 30 ? 30 : depth(called, guard + 1));
    }
    return 1 + deepest;
  }
}
