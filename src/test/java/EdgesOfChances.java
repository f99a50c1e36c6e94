import java.util.List;

/** The boundary cases of what is seen, of chances and of slots: promises 22 to 30, and the words of Terms that they use. */
final class EdgesOfChances {
  private static final String SIX_STEPS = "T00100T11200T22300T33400T44500T55600";

  private EdgesOfChances() {}

  static void addTo(List<Edge> edges) {
    edges.add(seenDays());
    edges.add(sixSeen());
    edges.add(notLookedAt());
    edges.add(heldBits());
    edges.add(tenths());
    edges.add(yearsTimes());
    edges.add(seedWraps());
    edges.add(upperBits());
    edges.add(onlyTheSeed());
    edges.add(slotsKeep());
    edges.add(see());
    edges.add(unsee());
    edges.add(held());
    edges.add(heldRefused());
    edges.add(losses());
    edges.add(seed());
    edges.add(years());
    edges.add(keep());
    edges.add(again());
    edges.add(count());
  }

  private static Edge seenDays() {
    return new Edge("Terms", "SEEN: that a PERSON was at a STOP at the beginning of a DAY (0 to 10)")
        .run("line LP000P000T00700", "see(0, 0, 0) = 1", "held(0) = 3", "see(0, 7, 1) = 2", "held(0) = 1", "unsee() = 2",
            "see(0, 7, 0) = 1", "held(0) = 0")
        .run("line LP000P000T90700", "see(0, 0, 9) = 1", "held(0) = 3", "see(0, 0, 10) = 2", "held(0) = 2", "unsee() = 2",
            "see(0, 7, 10) = 1", "held(0) = 1", "see(0, 7, 9) = 2", "held(0) = 0", "see(0, 0, 11) = OUTSIDE", "see(0, 0, -1) = OUTSIDE")
        .broken("int see(", "day < 0", "day < 1")
        .broken("int see(", "day > DAYS", "day >= DAYS")
        .broken("boolean trialMakesSeenSo(", "return seenIsSoOn(DAYS)", "return true")
        .broken("boolean trialMakesSeenSo(", "day = now.day", "day = now.day + 1");
  }

  private static Edge sixSeen() {
    return new Edge("Terms", "6 such at most, none at first")
        .run("count(7) = 0", "unsee() = 0", "line LP000P000T00100", "held(0) = 3", "see(1, 0, 1) = 1", "held(0) = 1", "see(1, 0, 1) = 2", "see(1, 0, 1) = 3",
            "see(1, 0, 1) = 4", "see(1, 0, 1) = 5", "held(0) = 1", "see(0, 0, 1) = 6", "held(0) = 0", "see(0, 0, 1) = FULL", "count(7) = 6")
        .broken("private static final int MOST_ACTS", "MOST_SEEN = 6", "MOST_SEEN = 5")
        .broken("private static final int MOST_ACTS", "MOST_SEEN = 6", "MOST_SEEN = 7")
        .broken("boolean seenIsSoOn(", "seen < seenCount", "seen < seenCount - 1")
        .broken("boolean seenIsSoOn(", "int seen = 0", "int seen = 1");
  }

  private static Edge notLookedAt() {
    return new Edge("Terms", "(DAYS ahead of THE DAY, PEOPLE that there are not any more are not looked at)")
        .run("line LP000P000T50700", "see(1, 9, 0) = 1", "see(1, 9, 1) = 2", "held(0) = 0", "day() = 0", "held(0) = 0", "day() = 0",
            "held(0) = 3", "undo() = 1", "held(0) = 0", "undo() = 0", "held(0) = 0", "count(7) = 2")
        // SEEN behind the DAY it is about, and not looked at either.
        .run("line LP000P000T50700", "day() = 0", "see(1, 9, 0) = 1", "held(0) = 3", "see(1, 9, 1) = 2", "held(0) = 0")
        .run("line LP000P000P000T50700", "see(2, 9, 0) = 1", "see(1, 0, 10) = 2", "held(0) = 0", "line LP000P000T50700", "held(0) = 1",
            "count(7) = 2", "line LP000P000P000T50700", "held(0) = 0", "line LP000T50700", "held(0) = 1", "line LP000P000P900T50701",
            "held(0) = 5")
        .run("line LP000T50700", Edges.times(10, "day()"), "see(0, 3, 9) = 1", "undo() = 9", "lose(0) = STATE", "held(0) = STATE",
            Edges.times(4, "undo()"), "held(0) = 0", "lose(0) = 0", "day() = 0")
        .run("line LP000P000T01700", Edges.times(10, "day()"), "see(0, 3, 9) = 1", "held(0) = 3", "see(1, 3, 10) = 2", "held(0) = 0")
        .broken("boolean trialMakesSeenSo(", "day = now.day", "day = 0")
        .broken("boolean trialMakesSeenSo(", "day = now.day", "day = now.day + 1")
        .broken("boolean seenIsSoOn(", "seenDay[seen] == day", "seenDay[seen] <= day")
        .broken("boolean seenIsSoOn(", " && told.hasPerson(person)", "");
  }

  private static Edge heldBits() {
    return new Edge("Terms", "HELD for a TICKET that is not gone: PEOPLE (bits) that, holding it now, make all that is SEEN so.")
        .run("line LP000P000P000P000P003T00700", "held(0) = 31", "see(0, 0, 1) = 1", "held(0) = 30", "see(3, 0, 10) = 2", "held(0) = 22",
            "see(4, 0, 10) = 3", "held(0) = 22", "see(4, 7, 10) = 4", "held(0) = 0")
        .run("line LP000P000T00700", "see(1, 7, 1) = 1", "held(0) = 2", "ticket(0, 4) = 0", "see(0, 7, 1) = 2", "held(0) = 0")
        .run("line LP000P000T00700T00711", "see(0, 7, 1) = 1", "held(0) = 1", "held(1) = 3", "lose(0) = 0", "held(0) = STATE", "held(1) = 1")
        .broken("int held(", "holders |= 1 << person", "holders = 1 << person")
        .broken("int held(", "person < told.people", "person < told.people - 1")
        .broken("int held(", "trial.moment.holder[ticket] = person;", "")
        .broken("boolean seenIsSoOn(", "return false", "return true");
  }

  private static Edge tenths() {
    return new Edge("Terms", "LOSSES by x tenths (0 to 10): each TICKET that is not gone is LOST now by itself: the chance that a PERSON is at a STOP"
        + " at the end of all DAYS: a FRACTION.")
        .run("line LP000T00100", "losses(0, 1, 0, true) = 1", "losses(0, 1, 0, false) = 1", "losses(0, 0, 0, true) = 0",
            "losses(0, 0, 0, false) = 1", "losses(0, 1, 10, true) = 0", "losses(0, 1, 10, false) = 1", "losses(0, 0, 10, true) = 1",
            "losses(0, 0, 10, false) = 1", "losses(0, 0, 1, true) = 1", "losses(0, 0, 1, false) = 10", "losses(0, 1, 9, true) = 1",
            "losses(0, 1, 9, false) = 10")
        .run("line LP000" + SIX_STEPS, "losses(0, 6, 1, true) = 531441", "losses(0, 6, 1, false) = 1000000", "losses(0, 6, 0, true) = 1",
            "losses(0, 6, 10, true) = 0", "losses(0, 0, 10, true) = 1", "losses(0, 6, 5, false) = 64", "losses(0, 5, 1, true) = 59049")
        .run("line LP000T00100T11200", "lose(1) = 0", "losses(0, 1, 3, true) = 7", "losses(0, 1, 3, false) = 10", "day() = 1",
            "losses(0, 1, 3, true) = 1", "losses(0, 1, 3, false) = 1")
        .run("line LP000", "losses(0, 0, 7, true) = 1", "losses(0, 0, 7, false) = 1", "losses(0, 9, 7, true) = 0", "losses(0, 9, 7, false) = 1")
        .broken("int losses(", "x > TENTHS", "x >= TENTHS")
        .broken("int losses(", "x < 0 ||", "x < 1 ||")
        .broken("int losses(", "lost < TICKET_SETS", "lost < TICKET_SETS - 1")
        .broken("int losses(", "int lost = 0", "int lost = 1")
        .broken("int losses(", "power(TENTHS, thereCount)", "power(TENTHS, told.tickets)")
        .broken("int power(", "int factor = 0", "int factor = 1")
        .broken("boolean endsAtAfterLosing(", "passDaysTo(DAYS)", "passDaysTo(DAYS - 1)")
        .broken("boolean endsAtAfterLosing(", "trial.moment.gone |= lost;", "")
        .run("line LP000T90100", "losses(0, 1, 5, true) = 1", "losses(0, 1, 5, false) = 2", Edges.times(10, "day()"),
            "losses(0, 1, 5, true) = 1", "losses(0, 1, 5, false) = 1");
  }

  private static Edge yearsTimes() {
    return new Edge("Terms", "YEARS by THE SEED: m times (1 to 30) x (THE SEED, a long; 0 at first)")
        .run("line LP000P110", "years(1) = 2", "years(30) = 60", "years(2) = 4", "years(0) = OUTSIDE", "years(31) = OUTSIDE")
        .run("seed(0) = 0", "years(1) = 0", "seed(0) = 1442695040888963407")
        .broken("int years(", "m < 1", "m < 0")
        .broken("int years(", "m < 1", "m < 2")
        .broken("int years(", "m > MOST_YEARS", "m >= MOST_YEARS")
        .broken("private static final int MOST_ACTS", "MOST_YEARS = 30", "MOST_YEARS = 31")
        .broken("int years(", "year < m", "year <= m")
        .broken("private final int[] text", "theSeed = 0", "theSeed = 7");
  }

  private static Edge seedWraps() {
    long times = 6364136223846793005L;
    long and = 1442695040888963407L;
    long second = and * times + and;
    return new Edge("Terms", "becomes x times 6364136223846793005 and 1442695040888963407 (64 bits, wrapping)")
        .run("years(2) = 0", "seed(1) = " + second, "years(1) = 0", "seed(-1) = " + (times + and), "years(1) = 0",
            "seed(MAX) = " + (and - times), "years(1) = 0", "seed(MIN) = " + (Long.MIN_VALUE - times + and), "years(1) = 0",
            "seed(0) = " + (Long.MIN_VALUE + and))
        .run("seed(2) = 0", "years(1) = 0", "seed(0) = -4275776585127002199")
        .broken("private static final long SEED_FACTOR", "6364136223846793005L", "6364136223846793006L")
        .broken("private static final long SEED_FACTOR", "1442695040888963407L", "1442695040888963408L")
        .broken("int years(", "theSeed * SEED_FACTOR + SEED_STEP", "(theSeed * SEED_FACTOR + SEED_STEP) & Long.MAX_VALUE");
  }

  private static Edge upperBits() {
    String[] steps = new String[128];
    for (int lost = 0; lost < 64; lost++) {
      steps[2 * lost] = "seed(" + Edges.seedAhead(lost) + ")";
      boolean last = (lost & 16) == 0 && (lost & 32) != 0;
      int glad = 4 - Integer.bitCount(lost & 15) + (last ? 1 : 0);
      steps[2 * lost + 1] = "years(1) = " + glad;
    }
    return new Edge("Terms", "its upper 31 bits by 64, what is left, tells TICKETS (bits) that are LOST now: how many are GLAD then, all"
        + " times together.")
        // The last PERSON goes to where it would like to be by TICKET 4 and away from there by TICKET 5.
        .run("line LP010P010P010P010P010T00100T00101T00102T00103T00104T51904", Edges.run(steps))
        // Bits for which there is no TICKET tell nothing; what is gone is gone.
        .run("line LP010P000T00100", "seed(" + Edges.seedAhead(62) + ")", "years(1) = 2", "seed(" + Edges.seedAhead(63) + ")",
            "years(1) = 1", "lose(0) = 0", "seed(" + Edges.seedAhead(0) + ")", "years(1) = 1",
            "seed(" + Edges.seedAhead(63) + ")", "years(1) = 1")
        .run("line LP000P110", "years(1) = 2", "years(30) = 60")
        .broken("private static final int SEED_SHIFT", "33", "32")
        .broken("private static final int SEED_SHIFT", "33", "34")
        .broken("int years(", "% TICKET_SETS", "% (TICKET_SETS / 2)")
        .broken("int years(", "trial.moment.gone |= lost", "trial.moment.gone = lost")
        .broken("int years(", "trial.moment.gone |= lost", "trial.moment.gone ^= lost")
        .broken("int years(", "trial.moment.gone |= lost", "trial.moment.gone |= ~lost")
        .broken("int years(", "sum += trial", "sum = trial");
  }

  private static Edge onlyTheSeed() {
    return new Edge("Terms", "(Nothing changes but THE SEED.)")
        .still(Edges.RICH, "years(30); seed(77)", "years(1); seed(77)")
        .still("line LP010T00100", "years(30); seed(0)")
        .broken("int years(", "trial.moment.gone |= lost", "trial.moment.gone = now.gone |= lost & 31")
        .broken("int years(", "return sum", "actsInRow = 0;\n        return sum");
  }

  private static Edge slotsKeep() {
    return new Edge("Terms", "SLOTS 0 to 1 keep THE DAY, where all are, TICKETS (THE ROW of ACTS is empty when one goes on).")
        .run("line LP011P022P030T00130T00241T00352T98700", "day() = 7", "give(3, 2) = 0", "keep(1) = 1", "keep(0) = 1", Edges.times(9, "day()"), "lose(3) = 2",
            "count(3) = 10", "again(1) = 1", "count(3) = 1", "count(6) = 0", "undo() = STATE", "person(0, 0) = 1", "person(1, 0) = 2",
            "person(2, 0) = 3", "ticket(0, 0) = 1", "ticket(0, 1) = 1", "ticket(0, 5) = 1", "ticket(0, 6) = 0", "ticket(1, 0) = 3",
            "ticket(1, 4) = 2", "ticket(2, 6) = 1", "ticket(3, 4) = 2", "ticket(3, 6) = 0", "count(4) = 4", "day() = 1", "undo() = 0")
        .run("line LP000", "keep(0) = 0", "day() = 0", "keep(1) = 1", "day() = 0", "again(0) = 0", "again(1) = 1", "again(0) = 0",
            "keep(2) = UNKNOWN", "again(2) = UNKNOWN", "keep(-1) = UNKNOWN", "again(-1) = UNKNOWN")
        .run("line LP011T00100", "keep(0) = 0", "day() = 1", "again(0) = 0", "ticket(0, 5) = 0", "ticket(0, 0) = 0", "person(0, 0) = 0")
        // An ACT or an undo behind it leaves what is kept as it was.
        .run("line LP000P000T00100", "give(0, 1) = 0", "keep(0) = 0", "undo() = 0", "ticket(0, 4) = 0", "again(0) = 0", "ticket(0, 4) = 1",
            "day() = 2", "again(0) = 0", "ticket(0, 6) = 0", "person(1, 0) = 0")
        .broken("int again(", "forgetActs();", "")
        .broken("int again(", "now.copy(before);", "")
        .broken("int keep(", "keepIn(kept, slot)", "keepIn(kept, 0)")
        .broken("boolean isSlot(", "number < SLOTS", "number < SLOTS - 1")
        .broken("boolean isSlot(", "number < SLOTS", "number <= SLOTS")
        .broken("boolean isSlot(", "number >= 0 && ", "")
        .broken("void copy(Moment other)", "returns = other.returns;", "")
        .broken("void copy(Moment other)", "System.arraycopy(other.at, 0, at, 0, MOST_PEOPLE);", "");
  }

  private static Edge see() {
    return new Edge("Promise 22", "SEEN: how many there are. UNKNOWN; OUTSIDE: stop, day (0 to 10); FULL: 6.")
        .run("line LP000P000", "see(2, 0, 0) = UNKNOWN", "see(-1, 0, 0) = UNKNOWN", "see(MIN, 0, 0) = UNKNOWN", "see(MAX, 0, 0) = UNKNOWN",
            "see(0, 10, 0) = OUTSIDE", "see(0, -1, 0) = OUTSIDE", "see(0, MIN, 0) = OUTSIDE", "see(0, MAX, 0) = OUTSIDE",
            "see(0, 0, 11) = OUTSIDE", "see(0, 0, -1) = OUTSIDE", "see(0, 0, MIN) = OUTSIDE", "see(0, 0, MAX) = OUTSIDE", "count(7) = 0",
            "see(1, 9, 10) = 1", "see(0, 0, 0) = 2", "see(1, 9, 10) = 3", "see(0, 0, 0) = 4", "see(0, 0, 0) = 5", "see(0, 0, 0) = 6",
            "see(0, 0, 0) = FULL", "count(7) = 6", "unsee() = 6", "see(0, 0, 0) = 1")
        .run("see(0, 0, 0) = UNKNOWN")
        .broken("int see(", "!told.hasPerson(person)", "person < 0 || person >= MOST_PEOPLE")
        .broken("int see(", "!isStop(stop) ||", "stop < 0 ||")
        .broken("int see(", "!isStop(stop) ||", "stop >= STOPS ||")
        .broken("int see(", "day < 0", "day < -1")
        .broken("int see(", "day > DAYS", "day > DAYS + 1")
        .broken("int see(", "seenCount >= MOST_SEEN", "seenCount >= MOST_SEEN - 1")
        .broken("int see(", "seenCount >= MOST_SEEN", "seenCount > MOST_SEEN")
        .broken("int see(", "return FULL", "return OUTSIDE");
  }

  private static Edge unsee() {
    return new Edge("Promise 23", "Nothing is SEEN: how many there were.")
        .run("unsee() = 0", "line LP000P000T00700", "see(1, 7, 1) = 1", "held(0) = 2", "unsee() = 1", "held(0) = 3", "count(7) = 0",
            "unsee() = 0", Edges.times(6, "see(0, 0, 0)"), "unsee() = 6", "unsee() = 0")
        .broken("int unsee(", "seenCount = 0;", "")
        .broken("int unsee(", "return before", "return seenCount");
  }

  private static Edge held() {
    return new Edge("Promise 24", "HELD, as bits.")
        .run("line LP000P000P000P000P000T00700", "held(0) = 31", "see(4, 7, 10) = 1", "held(0) = 16", "see(0, 7, 10) = 2", "held(0) = 0")
        .run("line LP000T00700", "held(0) = 1", "see(0, 0, 10) = 1", "held(0) = 0")
        .broken("int held(", "int person = 0", "int person = 1")
        .broken("int held(", "return holders", "return Integer.bitCount(holders)");
  }

  private static Edge heldRefused() {
    return new Edge("Promise 24", "UNKNOWN; STATE: it is gone.")
        .run("line LP000T00100T00100", "held(2) = UNKNOWN", "held(-1) = UNKNOWN", "held(MIN) = UNKNOWN", "held(MAX) = UNKNOWN",
            "held(32) = UNKNOWN", "held(0) = 1", "lose(0) = 0", "held(0) = STATE", "held(1) = 1", "day() = 1", "held(1) = STATE", "undo() = 1",
            "held(1) = 1")
        .run("held(0) = UNKNOWN")
        .broken("int held(", "!now.hasTicket(ticket)", "ticket < 0")
        .broken("int held(", "if (now.isGone(ticket))", "if (now.notGone() == 0)")
        .broken("int held(", "return STATE", "return 0");
  }

  private static Edge losses() {
    return new Edge("Promise 25", "LOSSES. UNKNOWN; OUTSIDE: stop, x.")
        .run("line LP000T00100", "losses(1, 0, 0, true) = UNKNOWN", "losses(-1, 0, 0, false) = UNKNOWN", "losses(MIN, 0, 0, true) = UNKNOWN",
            "losses(MAX, 0, 0, true) = UNKNOWN", "losses(0, 10, 0, true) = OUTSIDE", "losses(0, -1, 0, false) = OUTSIDE",
            "losses(0, MIN, 0, true) = OUTSIDE", "losses(0, MAX, 0, true) = OUTSIDE", "losses(0, 0, 11, true) = OUTSIDE",
            "losses(0, 0, -1, false) = OUTSIDE", "losses(0, 0, MIN, true) = OUTSIDE", "losses(0, 0, MAX, true) = OUTSIDE",
            "losses(0, 9, 10, true) = 0", "losses(0, 0, 0, true) = 0", "losses(0, 0, 10, true) = 1")
        .run("losses(0, 0, 0, true) = UNKNOWN")
        .broken("int losses(", "!told.hasPerson(person)", "person < 0 || person >= MOST_PEOPLE")
        .broken("int losses(", "!isStop(stop) ||", "stop < 0 ||")
        .broken("int losses(", "!isStop(stop) ||", "stop >= STOPS ||")
        .broken("int losses(", "x < 0 ||", "x < -1 ||")
        .broken("int losses(", "x > TENTHS", "x > TENTHS + 1");
  }

  private static Edge seed() {
    return new Edge("Promise 26", "THE SEED is v: what it was.")
        .run("seed(MIN) = 0", "seed(MAX) = -9223372036854775808", "seed(-1) = 9223372036854775807", "seed(4294967296) = -1",
            "seed(0) = 4294967296", "seed(0) = 0")
        .broken("long seed(", "return before", "return theSeed")
        .broken("long seed(", "theSeed = v", "theSeed = (int) v");
  }

  private static Edge years() {
    return new Edge("Promise 27", "YEARS. OUTSIDE: m.")
        .run("line LP000", "seed(5) = 0", "years(0) = OUTSIDE", "years(-1) = OUTSIDE", "years(31) = OUTSIDE", "years(MIN) = OUTSIDE",
            "years(MAX) = OUTSIDE", "seed(5) = 5", "years(1) = 1", "years(30) = 30")
        .run("years(30) = 0", "years(31) = OUTSIDE")
        .broken("int years(", "m < 1", "m < 0")
        .broken("int years(", "m > MOST_YEARS", "m > MOST_YEARS + 1")
        .broken("int years(", "return OUTSIDE", "return 0");
  }

  private static Edge keep() {
    return new Edge("Promise 28", "They are kept: THE DAY. UNKNOWN.")
        .run("keep(0) = 0", "keep(1) = 0", "keep(2) = UNKNOWN", "keep(-1) = UNKNOWN", "keep(MIN) = UNKNOWN", "keep(MAX) = UNKNOWN",
            "keep(32) = UNKNOWN", "day() = 0", "keep(0) = 1", "again(1) = 0", "again(0) = 1", Edges.times(9, "day()"), "keep(1) = 10",
            "again(0) = 1", "again(1) = 10", "day() = STATE")
        .broken("int keep(", "!isSlot(slot)", "slot < 0 || slot > 31")
        .broken("int keep(", "return now.day", "return 0")
        .broken("int keep(", "keepIn(kept, slot);", "if (kept[slot] == null) {\n            keepIn(kept, slot);\n        }");
  }

  private static Edge again() {
    return new Edge("Promise 29", "They are as they were kept: THE DAY. UNKNOWN; STATE: none were kept.")
        .run("again(0) = STATE", "again(1) = STATE", "again(2) = UNKNOWN", "again(-1) = UNKNOWN", "again(MIN) = UNKNOWN",
            "again(MAX) = UNKNOWN", "again(32) = UNKNOWN", "keep(1) = 0", "again(0) = STATE", "day() = 0", "again(1) = 0", "count(3) = 0",
            "day() = 0", "again(1) = 0", "count(3) = 0")
        .run("line LP000", "keep(0) = 0", "keep(1) = 0", "line() = 10", "again(0) = STATE", "again(1) = STATE",
            "keep(1) = 0", "again(0) = STATE", "again(1) = 0")
        .broken("int again(", "(keptSlots >> slot & 1) == 0 || ", "")
        .broken("int again(", "return UNKNOWN", "return STATE")
        .broken("int again(", "return STATE", "return 0")
        .broken("int keep(", "keptSlots |= 1 << slot", "keptSlots |= 3");
  }

  private static Edge count() {
    return new Edge("Promise 30", "0 letters of THE TEXT, 1 PEOPLE, 2 TICKETS, 3 THE DAY, 4 TICKETS that are gone (bits), 5 how many are where they"
        + " would like to be now, 6 ACTS in the row, 7 SEEN. OUTSIDE.")
        .run("line LP120P440P333P983T01200T14500T04501", "count(0) = 35", "count(1) = 4", "count(2) = 3", "count(3) = 0", "count(4) = 0",
            "count(5) = 2", "count(6) = 0", "count(7) = 0", "count(8) = OUTSIDE", "count(-1) = OUTSIDE", "count(MIN) = OUTSIDE",
            "count(MAX) = OUTSIDE", "day() = 3", "lose(1) = 0", "see(0, 0, 0) = 1", "write(80) = 36", "count(0) = 36", "count(3) = 1",
            "count(4) = 7", "count(5) = 2", "count(6) = 2", "count(7) = 1")
        .run("line LP000P000P000P000P000T00100T00101T00102T00103T00104T90100", "count(5) = 5", "day() = 31", "count(5) = 0", "lose(5) = 0",
            "count(4) = 63")
        .broken("int count(", "default: return OUTSIDE", "default: return NONE")
        .broken("int count(", "default: return OUTSIDE", "default: return UNKNOWN")
        .broken("int count(", "return now.gladNow()", "return glad()")
        .broken("int count(", "return told.people", "return told.tickets");
  }
}
