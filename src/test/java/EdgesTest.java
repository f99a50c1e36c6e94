import java.io.IOException;
import java.nio.file.Files;
import java.nio.file.Path;
import java.util.ArrayList;
import java.util.List;
import java.util.regex.Matcher;
import java.util.regex.Pattern;

/** Every boundary case that the document names, on the class and on the plain model; and that none is left out. */
public final class EdgesTest {
  private static final Check CHECK = new Check("EdgesTest");
  private static final Path DOCUMENT = Path.of("../shared/DOC.md");

  public static void main(String[] args) throws IOException, ReflectiveOperationException {
    String document = Files.readString(DOCUMENT);
    List<Edge> edges = Edges.all();
    for (Edge edge : edges) {
      CHECK.holds("the document says, in " + edge.section + ": " + edge.sentence,
          plain(sectionOf(document, edge.section)).contains(plain(edge.sentence)));
      CHECK.holds("there is a run for: " + edge.sentence, edge.runs.size() + edge.stills.size() > 0);
      holds(edge, PunchedTicket.class);
      holds(edge, Model.class);
    }
    nothingIsLeftOut(document, edges, "Terms");
    for (int promise = 1; promise <= 30; promise++) {
      promiseIsHeld(document, edges, promise);
      nothingIsLeftOut(document, edges, "Promise " + promise);
    }
    CHECK.end();
  }

  /** Every word of a section stands in a sentence of an edge, but for the marks and words between them. */
  private static void nothingIsLeftOut(String document, List<Edge> edges, String section) {
    String text = plain(sectionOf(document, section)).replaceAll("Ahead of the calls.*", "").replaceAll("^ ?`[^`]*`:", "");
    StringBuilder left = new StringBuilder(text);
    for (Edge edge : edges) {
      int place = edge.section.equals(section) ? text.indexOf(plain(edge.sentence)) : -1;
      for (; place >= 0; place = text.indexOf(plain(edge.sentence), place + 1)) {
        left.replace(place, place + edge.sentence.length(), " ".repeat(edge.sentence.length()));
      }
    }
    String words = left.toString().replaceAll("==== [123]|```text|```|Phwk|Tdabsp|\\band\\b|[;:,.]", "").trim();
    CHECK.holds("an edge says, of " + section + ": " + words, words.isEmpty());
  }

  private static void holds(Edge edge, Class<?> type) throws ReflectiveOperationException {
    String wrong = edge.wrongIn(type);
    CHECK.holds(type.getName() + ", " + edge.section + ", \"" + edge.sentence + "\": " + wrong, wrong == null);
  }

  private static String plain(String text) {
    return text.replaceAll("\\s+", " ");
  }

  private static String sectionOf(String document, String section) {
    Matcher matcher = Pattern.compile("(?ms)^## " + section + "(:[^\n]*)?\n(.*?)(?=^## |\\z)").matcher(document);
    return matcher.find() ? matcher.group(2) : "";
  }

  /** Each refusal that a promise names is the answer of its call in one of its own runs. */
  private static void promiseIsHeld(String document, List<Edge> edges, int promise) {
    String section = sectionOf(document, "Promise " + promise);
    List<String> runs = new ArrayList<>();
    for (Edge edge : edges) {
      if (edge.section.equals("Promise " + promise)) {
        runs.addAll(edge.runs);
      }
    }
    CHECK.holds("promise " + promise + " has runs of its own", !runs.isEmpty());
    Matcher name = Pattern.compile("`\\w+ (\\w+)\\(").matcher(section);
    String call = name.find() ? name.group(1) : "";
    Matcher refusal = Pattern.compile("\\b(UNKNOWN|OUTSIDE|STATE|FULL|NONE)\\b").matcher(section);
    while (refusal.find()) {
      Pattern answer = Pattern.compile("\\b" + call + "\\([^)]*\\) = " + refusal.group());
      CHECK.holds("promise " + promise + ": a run in which " + call + " answers " + refusal.group(),
          runs.stream().anyMatch(run -> answer.matcher(run).find()));
    }
  }
}
