/** Counts the answers of one test that are not as due, and tells them. */
final class Check {
  private final String test;
  private int answers = 0;
  private int wrong = 0;

  Check(String test) {
    this.test = test;
  }

  void due(String call, long got, long want) {
    answers++;
    if (got != want) {
      wrong++;
      System.out.println(test + ": " + call + " answered " + got + ", due is " + want);
    }
  }

  void holds(String what, boolean so) {
    due(what, so ? 1 : 0, 1);
  }

  void end() {
    System.out.println(test + ": " + answers + " answers, " + wrong + " of them wrong");
    if (wrong != 0 || answers == 0) {
      System.exit(1);
    }
  }

  static void write(PunchedTicket x, String text) {
    x.wipe();
    for (int i = 0; i < text.length(); i++) {
      x.write(text.charAt(i));
    }
  }

  /** A new object whose LINE is the text. */
  static PunchedTicket lineOf(String text) {
    PunchedTicket x = new PunchedTicket();
    write(x, text);
    if (x.line() < 0) {
      throw new IllegalStateException("no line: " + text);
    }
    return x;
  }

  static void days(PunchedTicket x, int n) {
    for (int i = 0; i < n; i++) {
      x.day();
    }
  }

  static int faultOf(String text) {
    PunchedTicket x = new PunchedTicket();
    write(x, text);
    return x.fault();
  }
}
