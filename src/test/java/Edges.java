import java.util.ArrayList;
import java.util.List;

/** All edges, and what they share. */
final class Edges {
  /** A run that leaves something everywhere: text, acts, what is kept, what is seen, a seed. */
  static final String RICH = run(
      "line LP050P172P261P803T00530T11741T22612T48903T55240", "see(0, 5, 3)", "seed(77)", "keep(0) = 0",
      "day() = 1", "give(3, 1) = 3", "day() = 2", "change(4, 2) = 2", "keep(1) = 2", "day() = 0", "lose(3) = 1",
      "write(80) = 48");

  /** Calls that together tell all that an object holds. */
  static final String PROBE = probe();

  private Edges() {}

  static List<Edge> all() {
    List<Edge> edges = new ArrayList<>();
    EdgesOfTerms.addTo(edges);
    EdgesOfLine.addTo(edges);
    EdgesOfActs.addTo(edges);
    EdgesOfJourneys.addTo(edges);
    EdgesOfChances.addTo(edges);
    return edges;
  }

  static String run(String... steps) {
    return String.join("; ", steps);
  }

  static String times(int n, String... steps) {
    return run(java.util.Collections.nCopies(n, run(steps)).toArray(new String[0]));
  }

  /** The seed whose next one tells these TICKETS; every other bit of the next one is set. */
  static long seedAhead(int lost) {
    long next = ~(63L << 33) | (long) lost << 33;
    long factor = 6364136223846793005L;
    long inverse = factor;
    for (int i = 0; i < 6; i++) {
      inverse *= 2 - factor * inverse;
    }
    return (next - 1442695040888963407L) * inverse;
  }

  private static String look() {
    List<String> steps = new ArrayList<>();
    for (int what = 0; what <= 7; what++) {
      steps.add("count(" + what + ")");
      for (int number = 0; number <= 4; number++) {
        steps.add("ticket(" + number + ", " + Math.min(what, 6) + ")");
        if (what <= 4) {
          steps.add("person(" + number + ", " + what + ")");
        }
      }
    }
    return String.join("; ", steps);
  }

  private static String probe() {
    String held = "held(0); held(1); held(2); held(3); held(4)";
    String undone = "undo(); count(3); count(4); person(0, 0); person(1, 0); person(2, 0); ticket(0, 4); ticket(1, 4);"
        + " ticket(2, 4); ticket(3, 4); ticket(4, 4)";
    return run(look(), "fault()", "glad()", held, times(15, undone),
        "again(0)", look(), "again(1)", look(), "line()", "count(1)", "count(2)", "seed(0)");
  }
}
