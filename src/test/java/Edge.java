import java.util.ArrayList;
import java.util.List;

/**
 * A sentence of the document that names a boundary case: runs of calls that hold the class to it,
 * and ways to break the class that these runs must notice.
 */
final class Edge {
  /** A change of the source: behind the anchor, the first place that says one thing says another. */
  record Break(String anchor, String from, String to) {}

  /** A call that must leave all as it is behind a run. */
  record Still(String setUp, String call) {}

  final String section;
  final String sentence;
  final List<String> runs = new ArrayList<>();
  final List<Still> stills = new ArrayList<>();
  final List<Break> breaks = new ArrayList<>();

  Edge(String section, String sentence) {
    this.section = section;
    this.sentence = sentence;
  }

  /** One object, all these calls. */
  Edge run(String... steps) {
    runs.add(String.join("; ", steps));
    return this;
  }

  /** Behind the same run each of the calls, one at a time. */
  Edge still(String setUp, String... calls) {
    for (String call : calls) {
      stills.add(new Still(setUp, call));
    }
    return this;
  }

  Edge broken(String anchor, String from, String to) {
    breaks.add(new Break(anchor, from, to));
    return this;
  }

  /** What a class does that the sentence rules out, first; or null. */
  String wrongIn(Class<?> type) throws ReflectiveOperationException {
    for (String run : runs) {
      String wrong = Script.wrongIn(type, run);
      if (wrong != null) {
        return wrong + ", in: " + run;
      }
    }
    for (Still still : stills) {
      String wrong = Script.changedBy(type, still.setUp(), still.call(), Edges.PROBE);
      if (wrong != null) {
        return wrong + ", behind: " + still.setUp();
      }
    }
    return null;
  }
}
