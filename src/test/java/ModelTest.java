import java.util.Random;

/** All promises: runs of calls, made by seeds, on the class and on the plain model beside it. */
public final class ModelTest {
  private static final int RUNS = 2000;
  // The ends of an int, and numbers that a shift by them takes for 0, 1 and 31.
  private static final int[] FAR = {Integer.MIN_VALUE, Integer.MIN_VALUE + 1, Integer.MAX_VALUE, 32, 33, 64, -32, -33};
  private static final Check CHECK = new Check("ModelTest");

  private final Random random;
  private final PunchedTicket x = new PunchedTicket();
  private final Model model = new Model();
  private final String run;
  // Few stops, days and seats make people meet more often.
  private final int stops, days, seats;

  private ModelTest(int seed) {
    random = new Random(seed);
    run = "run " + seed;
    stops = 2 + random.nextInt(9);
    days = 1 + random.nextInt(10);
    seats = 1 + random.nextInt(random.nextInt(10) + 1);
  }

  public static void main(String[] args) {
    int runs = args.length > 0 ? Integer.parseInt(args[0]) : RUNS;
    for (int seed = 0; seed < runs; seed++) {
      new ModelTest(seed).go();
    }
    CHECK.end();
  }

  private void go() {
    if (below(20) > 0) {
      writeText(lineText());
      due("line()", x.line(), model.line());
    }
    int calls = 20 + random.nextInt(30);
    for (int i = 0; i < calls; i++) {
      step();
    }
    lookAtAll();
  }

  private void due(String call, long got, long want) {
    CHECK.due(run + ": " + call, got, want);
  }

  private int below(int n) {
    return random.nextInt(n);
  }

  /** Mostly a number below n, at times one just outside, or far outside. */
  private int about(int n) {
    int k = below(30);
    return k == 0 ? -1 : k == 1 ? n : k == 2 ? FAR[below(FAR.length)] : n > 0 ? below(n) : 0;
  }

  private int somebody() {
    return about(model.count(1));
  }

  private int someTicket() {
    return about(model.count(2));
  }

  /** Mostly many people and tickets, and mostly tickets from where somebody is or may come to. */
  private String lineText() {
    StringBuilder b = new StringBuilder("L");
    int[] mayBe = new int[11];
    int people = 0, tickets = 0;
    int mostPeople = Math.min(5, 1 + below(10)), mostTickets = Math.min(6, below(14));
    while (people < mostPeople || tickets < mostTickets) {
      int stop = below(stops);
      mayBe[people + tickets] = stop;
      if (people < mostPeople && (people == 0 || tickets == mostTickets || below(3) > 0)) {
        people++;
        b.append('P').append(stop).append(below(stops)).append(below(8) == 0 ? 3 : below(3));
      } else {
        int from = below(6) == 0 ? below(10) : mayBe[below(people + tickets)];
        int to = stop == from ? (from + 1) % 10 : stop;
        tickets++;
        b.append('T').append(below(days)).append(from).append(to).append(below(seats)).append(below(people));
      }
    }
    return b.toString();
  }

  private void writeText(String text) {
    due("wipe()", x.wipe(), model.wipe());
    for (int i = 0; i < text.length(); i++) {
      due("write(..)", x.write(text.charAt(i)), model.write(text.charAt(i)));
    }
    due("fault() of " + text, x.fault(), model.fault());
  }

  private String spoiled(String text) {
    String signs = "LPT0123456789X/:";
    int place = below(text.length());
    char sign = signs.charAt(below(signs.length()));
    switch (below(4)) {
      case 0: return text.substring(0, place) + sign + text.substring(place + 1);
      case 1: return text.substring(0, place);
      case 2: return text.substring(0, place) + text.substring(place + 1);
      default: return text.substring(0, place) + sign + text.substring(place);
    }
  }

  private void step() {
    switch (below(40)) {
      case 0, 1, 2: due("day()", x.day(), model.day()); break;
      case 4: { int t = someTicket(), p = somebody(); due("give(" + t + ", " + p + ")", x.give(t, p), model.give(t, p)); break; }
      case 5: { int t = someTicket(); if (below(2) == 0) due("lose(" + t + ")", x.lose(t), model.lose(t)); break; }
      case 6: { int t = someTicket(), o = someTicket(); due("change(" + t + ", " + o + ")", x.change(t, o), model.change(t, o)); break; }
      case 7: due("undo()", x.undo(), model.undo()); break;
      case 8: { int s = about(2); due("keep(" + s + ")", x.keep(s), model.keep(s)); break; }
      case 9: { int s = about(2); if (below(2) == 0) due("again(" + s + ")", x.again(s), model.again(s)); break; }
      case 10: {
        int p = somebody(), d = about(11);
        int s = model.where(p, d) >= 0 && below(4) > 0 ? model.where(p, d) : about(10);
        due("see(" + p + ", " + s + ", " + d + ")", x.see(p, s, d), model.see(p, s, d));
        break;
      }
      case 11: { if (below(4) == 0) due("unsee()", x.unsee(), model.unsee()); break; }
      case 12: {
        if (below(6) == 0) {
          writeText(below(3) == 0 ? spoiled(lineText()) : lineText());
          due("line()", x.line(), model.line());
        }
        break;
      }
      case 3: { long v = random.nextLong(); due("seed(..)", x.seed(v), model.seed(v)); break; }
      default: ask(); break;
    }
  }

  private void ask() {
    boolean b = random.nextBoolean();
    switch (below(16)) {
      case 0: { int p = somebody(), d = about(11); due("where(" + p + ", " + d + ")", x.where(p, d), model.where(p, d)); break; }
      case 1: { int p = somebody(), o = somebody(); due("meet(" + p + ", " + o + ")", x.meet(p, o), model.meet(p, o)); break; }
      case 2: due("twoSeats()", x.twoSeats(), model.twoSeats()); break;
      case 3: { int p = somebody(), o = somebody(); due("fewest(" + p + ", " + o + ", " + b + ")", x.fewest(p, o, b), model.fewest(p, o, b)); break; }
      case 4: due("glad()", x.glad(), model.glad()); break;
      case 5: { int t = someTicket(); due("falls(" + t + ")", x.falls(t), model.falls(t)); break; }
      case 6: due("bestChange()", x.bestChange(), model.bestChange()); break;
      case 7: { int t = someTicket(); due("share(" + t + ", " + b + ")", x.share(t, b), model.share(t, b)); break; }
      case 8: { int p = somebody(), s = about(10); due("blank(" + p + ", " + s + ")", x.blank(p, s), model.blank(p, s)); break; }
      case 9: { int t = someTicket(); due("held(" + t + ")", x.held(t), model.held(t)); break; }
      case 10: {
        int p = somebody(), s = about(10), c = about(11);
        due("losses(" + p + ", " + s + ", " + c + ", " + b + ")", x.losses(p, s, c, b), model.losses(p, s, c, b));
        break;
      }
      case 11: { int m = about(31); due("years(" + m + ")", x.years(m), model.years(m)); break; }
      case 12: { int c = about(8); due("count(" + c + ")", x.count(c), model.count(c)); break; }
      case 13: { int p = somebody(), w = about(5); due("person(" + p + ", " + w + ")", x.person(p, w), model.person(p, w)); break; }
      case 14: { int t = someTicket(), w = about(7); due("ticket(" + t + ", " + w + ")", x.ticket(t, w), model.ticket(t, w)); break; }
      default: { int letter = about(256); due("write(" + letter + ")", x.write(letter), model.write(letter)); break; }
    }
  }

  private void lookAtAll() {
    for (int what = 0; what <= 8; what++) {
      due("count(" + what + ")", x.count(what), model.count(what));
    }
    for (int p = 0; p <= 5; p++) {
      for (int what = 0; what <= 5; what++) {
        due("person(" + p + ", " + what + ")", x.person(p, what), model.person(p, what));
      }
    }
    for (int t = 0; t <= 6; t++) {
      for (int what = 0; what <= 7; what++) {
        due("ticket(" + t + ", " + what + ")", x.ticket(t, what), model.ticket(t, what));
      }
    }
    due("seed(0)", x.seed(0), model.seed(0));
  }
}
