import java.math.BigInteger;
import java.util.ArrayList;
import java.util.List;

/**
 * The document once more, as plainly as it can be said and with no regard to cost: every search
 * tries all there is. ModelTest holds PunchedTicket against it.
 */
final class Model {
  static final int UNKNOWN = -1, OUTSIDE = -2, STATE = -3, FULL = -4, NONE = -9;

  static final class Person {
    int at, like, kind;

    Person copy() {
      Person p = new Person();
      p.at = at; p.like = like; p.kind = kind;
      return p;
    }
  }

  static final class Ticket {
    int day, from, to, seat, holder, toldFrom, toldTo;
    boolean isReturn, gone;

    Ticket copy() {
      Ticket t = new Ticket();
      t.day = day; t.from = from; t.to = to; t.seat = seat; t.holder = holder;
      t.toldFrom = toldFrom; t.toldTo = toldTo; t.isReturn = isReturn; t.gone = gone;
      return t;
    }
  }

  /** One way the world can be; a day leads to the next one. */
  static final class World {
    int day = 0;
    List<Person> people = new ArrayList<>();
    List<Ticket> tickets = new ArrayList<>();

    World copy() {
      World w = new World();
      w.day = day;
      for (Person p : people) w.people.add(p.copy());
      for (Ticket t : tickets) w.tickets.add(t.copy());
      return w;
    }

    int ride(int person) {
      Person p = people.get(person);
      if (p.kind == 3) return NONE;
      for (int t = 0; t < tickets.size(); t++) {
        Ticket k = tickets.get(t);
        if (!k.gone && k.holder == person && k.day == day && k.from == p.at) return t;
      }
      return NONE;
    }

    boolean together(int one, int other) {
      if (ride(one) == NONE || ride(other) == NONE) return false;
      Ticket a = tickets.get(ride(one)), b = tickets.get(ride(other));
      for (int s = 0; s < 9; s++) {
        if (over(a, s) && over(b, s)) return true;
      }
      return false;
    }

    private static boolean over(Ticket t, int stretch) {
      return t.from <= stretch && t.to >= stretch + 1 || t.to <= stretch && t.from >= stretch + 1;
    }

    boolean oneSeat(int one, int other) {
      return together(one, other) && tickets.get(ride(one)).seat == tickets.get(ride(other)).seat;
    }

    int pass() {
      int[] rides = new int[people.size()];
      for (int p = 0; p < rides.length; p++) rides[p] = ride(p);
      int went = 0;
      for (int p = 0; p < rides.length; p++) {
        if (rides[p] == NONE) continue;
        went |= 1 << p;
        Ticket t = tickets.get(rides[p]);
        people.get(p).at = t.to;
        use(t, p);
      }
      day++;
      return went;
    }

    private void use(Ticket t, int p) {
      switch (people.get(p).kind) {
        case 1 -> {
          if (t.isReturn || t.day + 1 > 9) { t.gone = true; return; }
          int from = t.from;
          t.from = t.to; t.to = from; t.isReturn = true; t.day += 1;
        }
        case 2 -> {
          if (t.day + 3 > 9) { t.gone = true; return; }
          t.holder = (p + 1) % people.size();
          t.day += 3; t.from = t.toldFrom; t.to = t.toldTo; t.isReturn = false;
        }
        default -> t.gone = true;
      }
    }

    World at(int wanted) {
      World w = copy();
      while (w.day < wanted) w.pass();
      return w;
    }

    int gladNow() {
      int n = 0;
      for (Person p : people) if (p.at == p.like) n++;
      return n;
    }

    int gladAtEnd() {
      return at(10).gladNow();
    }

    int meet(int one, int other) {
      for (int d = day; d < 10; d++) if (at(d).together(one, other)) return d;
      return NONE;
    }

    int twoSeats() {
      World w = copy();
      for (; w.day < 10; w.pass()) {
        for (int a = 0; a < people.size(); a++) {
          for (int b = 0; b < a; b++) if (w.oneSeat(a, b)) return w.day;
        }
      }
      return NONE;
    }

    int journeys() {
      World w = copy();
      int n = 0;
      while (w.day < 10) n += Integer.bitCount(w.pass());
      return n;
    }

    World given(int t, int p) {
      if (tickets.get(t).gone || tickets.get(t).holder == p) return null;
      World w = copy();
      w.tickets.get(t).holder = p;
      return w;
    }

    World changed(int t, int o) {
      Ticket a = tickets.get(t), b = tickets.get(o);
      if (a.gone || b.gone || a.holder == b.holder) return null;
      World w = copy();
      w.tickets.get(t).holder = b.holder;
      w.tickets.get(o).holder = a.holder;
      return w;
    }

    World lost(int bits) {
      World w = copy();
      for (int t = 0; t < tickets.size(); t++) if ((bits >> t & 1) != 0) w.tickets.get(t).gone = true;
      return w;
    }
  }

  private final List<Integer> text = new ArrayList<>();
  private World now = new World();
  private final List<World> acts = new ArrayList<>();
  private final World[] slots = new World[2];
  private final List<int[]> seen = new ArrayList<>();
  private BigInteger theSeed = BigInteger.ZERO;

  int write(int letter) {
    if (letter < 0 || letter > 255) return OUTSIDE;
    if (text.size() == 64) return FULL;
    text.add(letter);
    return text.size();
  }

  int wipe() {
    int n = text.size();
    text.clear();
    return n;
  }

  /** Whether some text that begins with these letters, however long, is a line. */
  private static boolean canBecomeLine(String s) {
    if (s.isEmpty()) return true;
    if (s.charAt(0) != 'L') return false;
    String rest = s.substring(1);
    int people = 0, tickets = 0;
    while (!rest.isEmpty()) {
      boolean isPerson = rest.charAt(0) == 'P';
      String part = rest.substring(0, Math.min(rest.length(), isPerson ? 4 : 6));
      rest = rest.substring(part.length());
      if (isPerson) {
        if (++people > 5 || !part.matches("P([0-9]([0-9]([0-3])?)?)?")) return false;
      } else {
        if (++tickets > 6 || people == 0) return false;
        if (!part.matches("T([0-9]([0-9]([0-9]([0-9]([0-9])?)?)?)?)?")) return false;
        if (part.length() > 3 && part.charAt(2) == part.charAt(3)) return false;
        if (part.length() > 5 && part.charAt(5) - '0' >= people) return false;
      }
    }
    return true;
  }

  private static boolean isLine(String s) {
    return canBecomeLine(s) && s.matches("L(P...|T.....)*");
  }

  private String letters() {
    StringBuilder b = new StringBuilder();
    for (int letter : text) b.append((char) letter);
    return b.toString();
  }

  int fault() {
    String s = letters();
    for (int n = 1; n <= s.length(); n++) if (!canBecomeLine(s.substring(0, n))) return n - 1;
    return isLine(s) ? NONE : s.length();
  }

  int line() {
    if (fault() != NONE) return STATE;
    String s = letters();
    now = new World();
    for (int i = 1; i < s.length(); ) {
      if (s.charAt(i) == 'P') {
        Person p = new Person();
        p.at = s.charAt(i + 1) - '0'; p.like = s.charAt(i + 2) - '0'; p.kind = s.charAt(i + 3) - '0';
        now.people.add(p);
        i += 4;
      } else {
        now.tickets.add(newTicket(s.charAt(i + 1) - '0', s.charAt(i + 2) - '0', s.charAt(i + 3) - '0',
            s.charAt(i + 4) - '0', s.charAt(i + 5) - '0'));
        i += 6;
      }
    }
    acts.clear();
    slots[0] = null;
    slots[1] = null;
    return 10 * now.people.size() + now.tickets.size();
  }

  private static Ticket newTicket(int day, int from, int to, int seat, int holder) {
    Ticket t = new Ticket();
    t.day = day; t.from = from; t.to = to; t.toldFrom = from; t.toldTo = to; t.seat = seat; t.holder = holder;
    return t;
  }

  private boolean noPerson(int p) {
    return p < 0 || p >= now.people.size();
  }

  private boolean noTicket(int t) {
    return t < 0 || t >= now.tickets.size();
  }

  int person(int person, int what) {
    if (noPerson(person)) return UNKNOWN;
    Person p = now.people.get(person);
    switch (what) {
      case 0: return p.at;
      case 1: return p.like;
      case 2: return p.kind;
      case 3:
        int bits = 0;
        for (int t = 0; t < now.tickets.size(); t++) {
          if (!now.tickets.get(t).gone && now.tickets.get(t).holder == person) bits |= 1 << t;
        }
        return bits;
      case 4: return now.ride(person);
      default: return OUTSIDE;
    }
  }

  int ticket(int ticket, int what) {
    if (noTicket(ticket)) return UNKNOWN;
    if (what < 0 || what > 6) return OUTSIDE;
    Ticket t = now.tickets.get(ticket);
    return new int[] {t.day, t.from, t.to, t.seat, t.holder, t.isReturn ? 1 : 0, t.gone ? 1 : 0}[what];
  }

  private void act(World next) {
    acts.add(now);
    if (acts.size() > 14) acts.remove(0);
    now = next;
  }

  int day() {
    if (now.day > 9) return STATE;
    World next = now.copy();
    int went = next.pass();
    act(next);
    return went;
  }

  int give(int ticket, int person) {
    if (noTicket(ticket) || noPerson(person)) return UNKNOWN;
    World next = now.given(ticket, person);
    if (next == null) return STATE;
    act(next);
    return acts.get(acts.size() - 1).tickets.get(ticket).holder;
  }

  int lose(int ticket) {
    if (noTicket(ticket)) return UNKNOWN;
    if (now.tickets.get(ticket).gone) return STATE;
    act(now.lost(1 << ticket));
    return now.tickets.get(ticket).holder;
  }

  int change(int ticket, int other) {
    if (noTicket(ticket) || noTicket(other)) return UNKNOWN;
    World next = now.changed(ticket, other);
    if (next == null) return STATE;
    act(next);
    return now.tickets.get(ticket).holder;
  }

  int undo() {
    if (acts.isEmpty()) return STATE;
    now = acts.remove(acts.size() - 1);
    return acts.size();
  }

  int where(int person, int day) {
    if (noPerson(person)) return UNKNOWN;
    if (day < 0 || day > 10) return OUTSIDE;
    if (day < now.day) return STATE;
    return now.at(day).people.get(person).at;
  }

  private int pair(int one, int other) {
    if (noPerson(one) || noPerson(other)) return UNKNOWN;
    return one == other ? OUTSIDE : 0;
  }

  int meet(int one, int other) {
    return pair(one, other) != 0 ? pair(one, other) : now.meet(one, other);
  }

  int twoSeats() {
    return now.twoSeats();
  }

  int fewest(int one, int other, boolean row) {
    if (pair(one, other) != 0) return pair(one, other);
    if (now.meet(one, other) != NONE) return 0;
    for (int g = 0; g < 100; g++) {
      World w = gift(now, g);
      if (w != null && w.meet(one, other) != NONE) return row ? g : 1;
    }
    for (int g = 0; g < 10000; g++) {
      World w = gift(now, g / 100);
      World v = w == null ? null : gift(w, g % 100);
      if (v != null && v.meet(one, other) != NONE) return row ? g : 2;
    }
    return NONE;
  }

  private World gift(World w, int figures) {
    return noTicket(figures / 10) || noPerson(figures % 10) ? null : w.given(figures / 10, figures % 10);
  }

  int glad() {
    return now.gladAtEnd();
  }

  int falls(int ticket) {
    if (noTicket(ticket)) return UNKNOWN;
    if (now.tickets.get(ticket).gone) return 100;
    return now.journeys() - now.lost(1 << ticket).journeys() + 100;
  }

  int bestChange() {
    int most = glad(), best = NONE;
    for (int g = 0; g < 100; g++) {
      int a = g / 10, b = g % 10;
      if (a >= b || noTicket(a) || noTicket(b)) continue;
      World w = now.changed(a, b);
      if (w != null && w.gladAtEnd() > most) {
        most = w.gladAtEnd();
        best = g;
      }
    }
    return best;
  }

  private static int fraction(long above, long below, boolean upper) {
    long g = BigInteger.valueOf(above).gcd(BigInteger.valueOf(below)).longValueExact();
    return Math.toIntExact((upper ? above : below) / g);
  }

  int share(int ticket, boolean upper) {
    if (noTicket(ticket)) return UNKNOWN;
    if (now.tickets.get(ticket).gone) return upper ? 0 : 1;
    List<Integer> there = new ArrayList<>();
    for (int t = 0; t < now.tickets.size(); t++) if (!now.tickets.get(t).gone) there.add(t);
    int[] glad = new int[64];
    for (int bits = 0; bits < 64; bits++) glad[bits] = now.lost(~bits).gladAtEnd();
    long[] sums = new long[2];
    orders(there, 0, ticket, glad, sums);
    return fraction(sums[0], sums[1], upper);
  }

  /** Goes through every order: what the ticket adds in all of them, and how many there are. */
  private static void orders(List<Integer> left, int come, int ticket, int[] glad, long[] sums) {
    if (left.isEmpty()) {
      sums[1]++;
      return;
    }
    for (int i = 0; i < left.size(); i++) {
      List<Integer> rest = new ArrayList<>(left);
      int next = rest.remove(i);
      long ordersBefore = sums[1];
      orders(rest, come | 1 << next, ticket, glad, sums);
      if (next == ticket) sums[0] += (sums[1] - ordersBefore) * (glad[come | 1 << next] - glad[come]);
    }
  }

  int blank(int person, int stop) {
    if (noPerson(person)) return UNKNOWN;
    if (stop < 0 || stop > 9) return OUTSIDE;
    if (now.people.get(person).kind == 3) return STATE;
    for (int g = 0; g < 10000; g++) {
      int from = g / 100 % 10, to = g / 10 % 10;
      if (from == to) continue;
      World w = now.copy();
      w.tickets.add(newTicket(g / 1000, from, to, g % 10, person));
      if (w.at(10).people.get(person).at == stop && w.twoSeats() == NONE) return g;
    }
    return NONE;
  }

  int see(int person, int stop, int day) {
    if (noPerson(person)) return UNKNOWN;
    if (stop < 0 || stop > 9 || day < 0 || day > 10) return OUTSIDE;
    if (seen.size() == 6) return FULL;
    seen.add(new int[] {person, stop, day});
    return seen.size();
  }

  int unsee() {
    int n = seen.size();
    seen.clear();
    return n;
  }

  int held(int ticket) {
    if (noTicket(ticket)) return UNKNOWN;
    if (now.tickets.get(ticket).gone) return STATE;
    int bits = 0;
    for (int p = 0; p < now.people.size(); p++) {
      World w = now.copy();
      w.tickets.get(ticket).holder = p;
      boolean so = true;
      for (int[] s : seen) {
        if (s[2] >= now.day && !noPerson(s[0])) so &= w.at(s[2]).people.get(s[0]).at == s[1];
      }
      if (so) bits |= 1 << p;
    }
    return bits;
  }

  int losses(int person, int stop, int x, boolean upper) {
    if (noPerson(person)) return UNKNOWN;
    if (stop < 0 || stop > 9 || x < 0 || x > 10) return OUTSIDE;
    long above = chance(now, 0, person, stop, x);
    long below = 1;
    for (Ticket t : now.tickets) if (!t.gone) below *= 10;
    return fraction(above, below, upper);
  }

  private static long chance(World w, int t, int person, int stop, int x) {
    if (t == w.tickets.size()) return w.at(10).people.get(person).at == stop ? 1 : 0;
    if (w.tickets.get(t).gone) return chance(w, t + 1, person, stop, x);
    return x * chance(w.lost(1 << t), t + 1, person, stop, x) + (10 - x) * chance(w, t + 1, person, stop, x);
  }

  long seed(long v) {
    long before = theSeed.longValue();
    theSeed = BigInteger.valueOf(v);
    return before;
  }

  int years(int m) {
    if (m < 1 || m > 30) return OUTSIDE;
    BigInteger all = BigInteger.ONE.shiftLeft(64);
    int sum = 0;
    for (int i = 0; i < m; i++) {
      theSeed = theSeed.multiply(new BigInteger("6364136223846793005"))
          .add(new BigInteger("1442695040888963407")).mod(all);
      int bits = theSeed.shiftRight(33).mod(BigInteger.valueOf(64)).intValue();
      sum += now.lost(bits).gladAtEnd();
    }
    return sum;
  }

  int keep(int slot) {
    if (slot < 0 || slot > 1) return UNKNOWN;
    slots[slot] = now.copy();
    return now.day;
  }

  int again(int slot) {
    if (slot < 0 || slot > 1) return UNKNOWN;
    if (slots[slot] == null) return STATE;
    now = slots[slot].copy();
    acts.clear();
    return now.day;
  }

  int count(int what) {
    switch (what) {
      case 0: return text.size();
      case 1: return now.people.size();
      case 2: return now.tickets.size();
      case 3: return now.day;
      case 4:
        int bits = 0;
        for (int t = 0; t < now.tickets.size(); t++) if (now.tickets.get(t).gone) bits |= 1 << t;
        return bits;
      case 5: return now.gladNow();
      case 6: return acts.size();
      case 7: return seen.size();
      default: return OUTSIDE;
    }
  }
}
