import java.util.List;

/** The boundary cases of days and other acts: promises 8 to 12, and the words of Terms that they use. */
final class EdgesOfActs {
  private static final String FIVE_GO = "line LP000P000P000P000P000T00100T00101T00102T00103T00104";

  private EdgesOfActs() {}

  static void addTo(List<Edge> edges) {
    edges.add(whoGoes());
    edges.add(childs());
    edges.add(readers());
    edges.add(plainOnes());
    edges.add(behindTheLastDay());
    edges.add(stayAsUsed());
    edges.add(oneDayMore());
    edges.add(given());
    edges.add(lost());
    edges.add(changed());
    edges.add(row());
    edges.add(lastCanBeUndone());
    edges.add(day());
    edges.add(dayState());
    edges.add(give());
    edges.add(giveUnknown());
    edges.add(giveState());
    edges.add(lose());
    edges.add(loseState());
    edges.add(change());
    edges.add(changeUnknown());
    edges.add(changeState());
    edges.add(undo());
    edges.add(undoState());
  }

  private static Edge whoGoes() {
    return new Edge("Terms", "A DAY: each PERSON that is not STAYING and holds TICKETS for THE DAY from where it is goes by the"
        + " least of these to where that leads (all at once).")
        .run("line LP500P503T05600T05701", "day() = 1", "person(0, 0) = 6", "person(1, 0) = 5", "count(4) = 1")
        .run("line LP500T15600", "day() = 0", "day() = 1", "day() = 0")
        .run("line LP500P600T05600", "lose(0) = 0", "day() = 0", "undo() = 1", "undo() = 0", "give(0, 1) = 0", "day() = 0", "undo() = 1",
            "give(0, 0) = 1", "day() = 1", "day() = 0", "person(0, 0) = 6")
        .run("line LP500T04600T06500T05700T05800", "day() = 1", "person(0, 0) = 7", "count(4) = 4", "person(0, 3) = 11")
        .run("line LP500P600T05600T06501", "day() = 3", "person(0, 0) = 6", "person(1, 0) = 5")
        // What one goes by on a DAY it does not go on from by another one on the same DAY.
        .run("line LP000T00100T01200T11300", "day() = 1", "person(0, 0) = 1", "day() = 1", "person(0, 0) = 3")
        .broken("boolean canTake(", "line.kind[person] != STAYING && ", "")
        .broken("void findRides(", "forDay[ticket] == day", "forDay[ticket] >= day")
        .broken("void findRides(", "forDay[ticket] == day", "forDay[ticket] <= day")
        .broken("void findRides(", "rides[person] == NONE && ", "")
        .broken("boolean canTake(", " && start == at[person]", "")
        .broken("boolean canTake(", "(gone & bit) == 0 && ", "")
        .broken("int passDay(", "at[person] = to(ticket)", "at[person] = from(ticket)");
  }

  private static Edge childs() {
    return new Edge("Terms", "TICKETS that were gone by: a CHILD's is for the next DAY, back, same SEAT (a return, if it is none already; else"
        + " it is gone)")
        .run("line LP121T31740", Edges.times(3, "day() = 0"), "day() = 1", "person(0, 0) = 7", "ticket(0, 0) = 4", "ticket(0, 1) = 7",
            "ticket(0, 2) = 1", "ticket(0, 3) = 4", "ticket(0, 4) = 0", "ticket(0, 5) = 1", "ticket(0, 6) = 0", "day() = 1",
            "person(0, 0) = 1", "ticket(0, 6) = 1", "ticket(0, 0) = 4", "ticket(0, 5) = 1", "day() = 0")
        .run("line LP001P001T00100T00111", "day() = 3", "ticket(0, 5) = 1", "ticket(1, 5) = 1", "day() = 3", "person(0, 0) = 0",
            "person(1, 0) = 0")
        // Another CHILD goes by a return: it is gone. A PLAIN one too.
        .run("line LP121P751T01740", "day() = 1", "give(0, 1) = 0", "day() = 2", "person(1, 0) = 1", "ticket(0, 6) = 1")
        .run("line LP121P750T01740", "day() = 1", "give(0, 1) = 0", "day() = 2", "person(1, 0) = 1", "ticket(0, 6) = 1",
            "ticket(0, 5) = 1")
        // A return for the DAY on which the CHILD goes by a lesser one is not used: it stays as it is.
        .run("line LP121T17200T01740", "day() = 1", "person(0, 4) = 0", "day() = 1", "person(0, 0) = 2", "ticket(0, 5) = 1",
            "ticket(0, 0) = 2", "ticket(1, 5) = 1", "ticket(1, 0) = 1", "ticket(1, 6) = 0", "day() = 1", "person(0, 0) = 7",
            "ticket(0, 6) = 1", "day() = 0", "ticket(1, 6) = 0")
        // So is one for which it is not there: GIVEN away, LOST.
        .run("line LP121P343T01740", "day() = 1", "give(0, 1) = 0", "day() = 0", "person(0, 0) = 7", "ticket(0, 4) = 1", "ticket(0, 6) = 0")
        .run("line LP121T01740T17200", "day() = 1", "lose(0) = 0", "day() = 1", "person(0, 0) = 2", "ticket(1, 5) = 1",
            "ticket(0, 5) = 1", "ticket(0, 0) = 1")
        .broken("private static final int RETURN_AFTER", "1", "2")
        .broken("void useTicket(", "!isReturn(ticket) && ", "")
        .broken("void useTicket(", "returns |= 1 << ticket;", "")
        .broken("void useTicket(", "returns |= 1 << ticket", "returns = 1 << ticket")
        .broken("int passDay(", "at[person] = to(ticket)", "at[person] = line.to[ticket]");
  }

  private static Edge readers() {
    return new Edge("Terms", "a READER's goes to the next PERSON by number (behind the last one: 0), for 3 DAYS later, as it was told")
        .run("line LP122P132P142T01230T01931T01852", "day() = 7", "ticket(0, 0) = 3", "ticket(0, 1) = 1", "ticket(0, 2) = 2",
            "ticket(0, 3) = 3", "ticket(0, 4) = 1", "ticket(0, 5) = 0", "ticket(0, 6) = 0", "ticket(1, 4) = 2", "ticket(2, 4) = 0",
            "ticket(2, 0) = 3", "person(0, 3) = 4", "person(1, 3) = 1", "person(2, 3) = 2")
        .run("line LP122T01230", "day() = 1", "ticket(0, 4) = 0", "ticket(0, 0) = 3", "ticket(0, 6) = 0")
        .run("line LP122P123T01230", "day() = 1", "ticket(0, 4) = 1", Edges.times(9, "day() = 0"), "ticket(0, 6) = 0")
        .run("line LP000P000P000P000P122T01234", "day() = 16", "ticket(0, 4) = 0")
        // A return that a READER goes by is as it was told: there, and no return.
        .run("line LP121P752T01740", "day() = 1", "give(0, 1) = 0", "day() = 2", "person(1, 0) = 1", "ticket(0, 0) = 4",
            "ticket(0, 1) = 1", "ticket(0, 2) = 7", "ticket(0, 3) = 4", "ticket(0, 4) = 0", "ticket(0, 5) = 0", "ticket(0, 6) = 0")
        // The same for a TICKET that is not the first one, and the other return stays one.
        .run("line LP121P752T01740T01750", "give(1, 1) = 0", "day() = 1", "undo() = 1", "undo() = 0", "lose(0) = 0", "day() = 1",
            "ticket(1, 5) = 1", "give(1, 1) = 0", "day() = 2", "ticket(1, 0) = 4", "ticket(1, 1) = 1", "ticket(1, 2) = 7",
            "ticket(1, 4) = 0", "ticket(1, 5) = 0", "ticket(1, 6) = 0")
        .run("line LP121P752P001T01740T00152", "day() = 5", "give(0, 1) = 0", "day() = 6", "ticket(0, 5) = 0", "ticket(1, 5) = 1",
            "ticket(1, 1) = 1", "ticket(1, 2) = 0", "ticket(1, 6) = 1", "person(2, 0) = 0")
        .broken("void useTicket(", "~(1 << ticket)", "~(1 >> ticket)")
        .broken("void useTicket(", "returns &= ~(1 << ticket)", "returns = 0")
        .broken("private static final int RETURN_AFTER", "READ_AFTER = 3", "READ_AFTER = 2")
        .broken("private static final int RETURN_AFTER", "READ_AFTER = 3", "READ_AFTER = 4")
        .broken("void useTicket(", "person + 1 < line.people", "person + 2 < line.people")
        .broken("void useTicket(", "person + 1 < line.people", "person + 1 < MOST_PEOPLE")
        .broken("void useTicket(", "? person + 1 : 0", "? person + 1 : person")
        .broken("void useTicket(", "returns &= ~(1 << ticket);", "");
  }

  private static Edge plainOnes() {
    return new Edge("Terms", "a PLAIN one's is gone.")
        .run("line LP120P120T01230T01240", "day() = 1", "ticket(0, 6) = 1", "ticket(1, 6) = 0", "count(4) = 1", "give(0, 1) = STATE",
            "ticket(0, 4) = 0", "ticket(0, 0) = 0")
        .broken("void useTicket(", "gone |= 1 << ticket;", "forDay[ticket] += READ_AFTER;");
  }

  private static Edge behindTheLastDay() {
    return new Edge("Terms", "What would be for a DAY behind 9 is gone")
        .run("line LP121P121T81740T91751", Edges.times(8, "day()"), "day() = 1", "ticket(0, 6) = 0", "ticket(0, 0) = 9", "day() = 3",
            "ticket(0, 6) = 1", "ticket(1, 6) = 1", "person(0, 0) = 1", "person(1, 0) = 7")
        .run("line LP122P122P122P122T61230T71241T81252T91263", Edges.times(6, "day()"), "day() = 1", "ticket(0, 6) = 0",
            "ticket(0, 0) = 9", "ticket(0, 4) = 1", "day() = 2", "ticket(1, 6) = 1", "day() = 4", "ticket(2, 6) = 1", "day() = 8",
            "ticket(3, 6) = 1")
        .broken("void useTicket(", "day + RETURN_AFTER < DAYS", "day + RETURN_AFTER <= DAYS")
        .broken("void useTicket(", "day + RETURN_AFTER < DAYS", "day + RETURN_AFTER < DAYS - 1")
        .broken("void useTicket(", "day + READ_AFTER < DAYS", "day + READ_AFTER <= DAYS")
        .broken("void useTicket(", "day + READ_AFTER < DAYS", "day + READ_AFTER < DAYS - 1");
  }

  private static Edge stayAsUsed() {
    return new Edge("Terms", "(what is gone stays as it was when it was used)")
        .run("line LP121P122P000T91740T91751", Edges.times(9, "day()"), "day() = 3", "ticket(0, 0) = 9", "ticket(0, 1) = 1",
            "ticket(0, 2) = 7", "ticket(0, 3) = 4", "ticket(0, 4) = 0", "ticket(0, 5) = 0", "ticket(0, 6) = 1", "ticket(1, 0) = 9",
            "ticket(1, 1) = 1", "ticket(1, 2) = 7", "ticket(1, 3) = 5", "ticket(1, 4) = 1", "ticket(1, 5) = 0", "ticket(1, 6) = 1")
        // A return that a READER goes by too late stays a return of that READER.
        .run("line LP121P752T61740", Edges.times(7, "day()"), "give(0, 1) = 0", "day() = 2", "ticket(0, 0) = 7", "ticket(0, 1) = 7",
            "ticket(0, 2) = 1", "ticket(0, 4) = 1", "ticket(0, 5) = 1", "ticket(0, 6) = 1")
        .broken("void useTicket(", "gone |= 1 << ticket;", "gone |= 1 << ticket;\n                forDay[ticket] = day + 1;")
        .broken("void useTicket(", "gone |= 1 << ticket;", "gone |= 1 << ticket;\n                returns ^= 1 << ticket;")
        .broken("void useTicket(", "gone |= 1 << ticket;",
            "gone |= 1 << ticket;\n                holder[ticket] = kind == READER ? 0 : person;");
  }

  private static Edge oneDayMore() {
    return new Edge("Terms", "THE DAY is one more (behind 9: no more DAYS).")
        .run("count(3) = 0", "day() = 0", "count(3) = 1", Edges.times(8, "day() = 0"), "count(3) = 9", "day() = 0", "count(3) = 10",
            "day() = STATE", "count(3) = 10")
        .broken("int day(", "now.day >= DAYS", "now.day >= DAYS - 1")
        .broken("int day(", "now.day >= DAYS", "now.day > DAYS")
        .broken("int passDay(", "day++", "day += 2");
  }

  private static Edge given() {
    return new Edge("Terms", "GIVEN: a TICKET that is not gone is another PERSON's.")
        .run("line LP120P120T01230", "give(0, 1) = 0", "ticket(0, 4) = 1", "person(0, 3) = 0", "person(1, 3) = 1", "day() = 2",
            "give(0, 0) = STATE")
        .broken("boolean canBeGiven(", "!isGone(ticket) && ", "")
        .broken("int give(", "now.holder[ticket] = person;", "");
  }

  private static Edge lost() {
    return new Edge("Terms", "LOST: it is gone.")
        .run("line LP120T01230T05600", "lose(0) = 0", "ticket(0, 6) = 1", "ticket(1, 6) = 0", "count(4) = 1", "day() = 0", "lose(1) = 0",
            "count(4) = 3")
        .broken("int lose(", "now.gone |= 1 << ticket", "now.gone = 1 << ticket")
        .broken("int lose(", "now.gone |= 1 << ticket;", "");
  }

  private static Edge changed() {
    return new Edge("Terms", "CHANGED: two TICKETS, not gone, of unlike PEOPLE, change their holders.")
        .run("line LP120P120P120T01230T51231T61232", "change(0, 2) = 2", "ticket(0, 4) = 2", "ticket(2, 4) = 0", "ticket(1, 4) = 1",
            "change(2, 0) = 2", "ticket(0, 4) = 0", "ticket(2, 4) = 2", "lose(0) = 0", "change(0, 1) = STATE", "change(1, 0) = STATE")
        .broken("boolean canBeChanged(", "!isGone(ticket) && ", "")
        .broken("boolean canBeChanged(", "!isGone(other) && ", "")
        .broken("void swapHolders(", "holder[other] = first;", "")
        .broken("void swapHolders(", "holder[ticket] = holder[other];", "");
  }

  private static Edge row() {
    return new Edge("Terms", "ACTS (DAYS, GIVEN, LOST, CHANGED) are a row (14 at most; of more the first one is forgotten)")
        .run("line LP120P120T51230T51231", "count(6) = 0", "day() = 0", "count(6) = 1", "give(0, 1) = 0", "count(6) = 2",
            "give(0, 0) = 1", "change(0, 1) = 1", "count(6) = 4", "lose(0) = 1", "count(6) = 5", "keep(0) = 1", "see(0, 0, 0) = 1",
            "seed(1) = 0", "years(1)", "glad()", "count(6) = 5")
        // Fourteen ACTS: all can be undone.
        .run("line LP120P120T01230", "lose(0) = 0", "undo() = 0", "day() = 1", "undo() = 0", Edges.times(7, "give(0, 1) = 0", "give(0, 0) = 1"),
            "count(6) = 14", Edges.times(13, "undo()"), "count(6) = 1", "undo() = 0", "ticket(0, 4) = 0", "undo() = STATE")
        // Fifteen: the first one, a DAY, is forgotten.
        .run("line LP120P120T51230", "day() = 0", Edges.times(6, "give(0, 1) = 0", "give(0, 0) = 1"), "give(0, 1) = 0",
            "count(6) = 14", "give(0, 0) = 1", "count(6) = 14", Edges.times(13, "undo()"), "undo() = 0", "undo() = STATE",
            "count(3) = 1", "ticket(0, 4) = 0")
        // Thirty, and what comes behind the ones that were undone.
        .run("line LP120P120T51230", Edges.times(15, "give(0, 1) = 0", "give(0, 0) = 1"), "count(6) = 14", "undo() = 13",
            "ticket(0, 4) = 1", "day() = 0", "count(6) = 14", "day() = 0", "count(6) = 14", "undo() = 13", "count(3) = 1",
            "undo() = 12", "count(3) = 0", "ticket(0, 4) = 1", Edges.times(12, "undo()"), "count(6) = 0", "ticket(0, 4) = 1",
            "undo() = STATE")
        .broken("private static final int MOST_ACTS", "14", "13")
        .broken("private static final int MOST_ACTS", "14", "15")
        .broken("void rememberAct(", "firstAct = (firstAct + 1) % MOST_ACTS;", "")
        .broken("void rememberAct(", "actsInRow < MOST_ACTS", "actsInRow <= MOST_ACTS")
        .broken("int day(", "rememberAct();", "")
        .broken("int give(", "rememberAct();", "")
        .broken("int lose(", "rememberAct();", "")
        .broken("int change(", "rememberAct();", "");
  }

  private static Edge lastCanBeUndone() {
    return new Edge("Terms", "the last one can be undone.")
        .run("line LP121P342P560T01230T03401T05602T91202", "day() = 7", "undo() = 0", "count(3) = 0", "count(4) = 0",
            "person(0, 0) = 1", "person(1, 0) = 3", "person(2, 0) = 5", "ticket(0, 0) = 0", "ticket(0, 5) = 0", "ticket(1, 0) = 0",
            "ticket(1, 4) = 1", "ticket(2, 6) = 0")
        .run("line LP120P340T01230T03401", "give(0, 1) = 0", "undo() = 0", "ticket(0, 4) = 0", "lose(1) = 1", "undo() = 0",
            "ticket(1, 6) = 0", "change(0, 1) = 1", "undo() = 0", "ticket(0, 4) = 0", "ticket(1, 4) = 1")
        .run(FIVE_GO, Edges.times(10, "day()"), "undo() = 9", "count(3) = 9", "day() = 0", "day() = STATE")
        .broken("void copy(Moment other)", "day = other.day;", "")
        .broken("void copy(Moment other)", "returns = other.returns;", "")
        .broken("void copy(Moment other)", "gone = other.gone;", "")
        .broken("void copy(Moment other)", "System.arraycopy(other.at, 0, at, 0, MOST_PEOPLE);", "")
        .broken("void copy(Moment other)", "System.arraycopy(other.forDay, 0, forDay, 0, MOST_TICKETS);", "")
        .broken("void copy(Moment other)", "System.arraycopy(other.holder, 0, holder, 0, MOST_TICKETS);", "");
  }

  private static Edge day() {
    return new Edge("Promise 8", "A DAY: who went (bits).")
        .run(FIVE_GO, "day() = 31", "day() = 0")
        .run("day() = 0")
        .run("line L", "day() = 0")
        .run("line LP000P000P000P000P000T00104", "day() = 16")
        .broken("int passDay(", "person < line.people", "person < line.people - 1")
        .broken("int passDay(", "went |= 1 << person", "went |= 1 << ticket");
  }

  private static Edge dayState() {
    return new Edge("Promise 8", "STATE: no DAY is left.")
        .run("line LP120T91200", Edges.times(9, "day() = 0"), "day() = 1", "day() = STATE", "day() = STATE", "undo() = 9", "day() = 1",
            "day() = STATE")
        .run(Edges.times(10, "day() = 0"), "day() = STATE", "keep(0) = 10", "undo() = 9", "again(0) = 10", "day() = STATE")
        .broken("int day(", "return STATE", "return 0")
        .broken("int day(", "now.day >= DAYS", "now.day > DAYS");
  }

  private static Edge give() {
    return new Edge("Promise 9", "GIVEN: whose it was.")
        .run("line LP120P120P123T01230", "give(0, 2) = 0", "give(0, 1) = 2", "give(0, 0) = 1", "ticket(0, 4) = 0")
        .broken("int give(", "return before", "return person");
  }

  private static Edge giveUnknown() {
    return new Edge("Promise 9", "UNKNOWN: both")
        .run("line LP120P120T01230", "give(1, 0) = UNKNOWN", "give(-1, 1) = UNKNOWN", "give(0, 2) = UNKNOWN", "give(0, -1) = UNKNOWN",
            "give(6, 5) = UNKNOWN", "give(MIN, 1) = UNKNOWN", "give(MAX, 1) = UNKNOWN", "give(0, MIN) = UNKNOWN",
            "give(0, MAX) = UNKNOWN", "give(32, 1) = UNKNOWN", "count(6) = 0")
        .broken("int give(", "!now.hasTicket(ticket) ||", "ticket < 0 ||")
        .broken("int give(", "|| !told.hasPerson(person)", "");
  }

  private static Edge giveState() {
    return new Edge("Promise 9", "STATE: it is gone, or that one's.")
        .run("line LP120P120T01230T01240", "give(0, 0) = STATE", "give(0, 1) = 0", "give(0, 1) = STATE", "lose(1) = 0", "give(1, 1) = STATE",
            "give(1, 0) = STATE", "count(6) = 2", "day() = 2", "give(0, 0) = STATE", "give(0, 1) = STATE")
        .broken("boolean canBeGiven(", "!isGone(ticket) && ", "")
        .broken("boolean canBeGiven(", " && holder[ticket] != person", "")
        .broken("int give(", "return STATE", "return OUTSIDE");
  }

  private static Edge lose() {
    return new Edge("Promise 10", "LOST: whose it was. UNKNOWN")
        .run("line LP120P120T01230T01231", "lose(1) = 1", "lose(0) = 0")
        .run("line LP120T01230", "lose(1) = UNKNOWN", "lose(-1) = UNKNOWN", "lose(MIN) = UNKNOWN", "lose(MAX) = UNKNOWN",
            "lose(32) = UNKNOWN", "count(6) = 0", "lose(0) = 0")
        .run("lose(0) = UNKNOWN")
        .broken("int lose(", "return now.holder[ticket]", "return 0")
        .broken("int lose(", "return UNKNOWN", "return OUTSIDE");
  }

  private static Edge loseState() {
    return new Edge("Promise 10", "STATE: it is gone.")
        .run("line LP120T01230T01240", "lose(0) = 0", "lose(0) = STATE", "count(6) = 1", "day() = 1", "lose(1) = STATE")
        .broken("int lose(", "if (now.isGone(ticket))", "if (now.notGone() == 0)")
        .broken("int lose(", "return STATE", "return now.holder[ticket]");
  }

  private static Edge change() {
    return new Edge("Promise 11", "CHANGED: who holds the first one then.")
        .run("line LP120P120P120T01230T51232", "change(0, 1) = 2", "change(0, 1) = 0", "change(1, 0) = 0", "change(1, 0) = 2")
        .broken("int change(", "return now.holder[ticket]", "return now.holder[other]");
  }

  private static Edge changeUnknown() {
    return new Edge("Promise 11", "UNKNOWN: both")
        .run("line LP120P120T01230T51231", "change(2, 0) = UNKNOWN", "change(0, 2) = UNKNOWN", "change(-1, 0) = UNKNOWN",
            "change(0, -1) = UNKNOWN", "change(6, 6) = UNKNOWN", "change(MIN, 0) = UNKNOWN", "change(0, MIN) = UNKNOWN",
            "change(MAX, 0) = UNKNOWN", "change(0, MAX) = UNKNOWN", "count(6) = 0")
        .broken("int change(", "!now.hasTicket(ticket) ||", "ticket < 0 ||")
        .broken("int change(", "|| !now.hasTicket(other)", "|| other < 0");
  }

  private static Edge changeState() {
    return new Edge("Promise 11", "STATE: one is gone, or one PERSON holds both.")
        .run("line LP120P120T01230T51230T51231T51241", "change(0, 1) = STATE", "change(0, 0) = STATE", "change(2, 3) = STATE",
            "lose(0) = 0", "change(0, 2) = STATE", "change(2, 0) = STATE", "lose(2) = 1", "change(0, 2) = STATE", "count(6) = 2",
            "change(1, 3) = 1")
        .broken("boolean canBeChanged(", " && holder[ticket] != holder[other]", "")
        .broken("boolean canBeChanged(", "!isGone(ticket) && ", "")
        .broken("boolean canBeChanged(", "!isGone(other) && ", "")
        .broken("int change(", "return STATE", "return OUTSIDE");
  }

  private static Edge undo() {
    return new Edge("Promise 12", "The last ACT is undone: how many are left.")
        .run("line LP120P120T91230", Edges.times(7, "give(0, 1)", "give(0, 0)"), "undo() = 13", "undo() = 12", "undo() = 11", "undo() = 10",
            "undo() = 9", "undo() = 8", "undo() = 7", "undo() = 6", "undo() = 5", "undo() = 4", "undo() = 3", "undo() = 2",
            "undo() = 1", "undo() = 0")
        .run("day() = 0", "undo() = 0", "count(3) = 0", "day() = 0", "undo() = 0", "count(3) = 0")
        .broken("int undo(", "return actsInRow", "return actsInRow + 1")
        .broken("int undo(", "actsInRow--;", "")
        .broken("int undo(", "now.copy(before);", "")
        .broken("int undo(", "actsInRow - 1)", "actsInRow)");
  }

  private static Edge undoState() {
    return new Edge("Promise 12", "STATE: there is none.")
        .run("undo() = STATE", "day() = 0", "undo() = 0", "undo() = STATE", "count(6) = 0")
        .run("line LP000", "undo() = STATE", "keep(0) = 0", "day() = 0", "again(0) = 0", "undo() = STATE", "day() = 0", "line() = 10",
            "undo() = STATE")
        .run("line LP000P000T90100", Edges.times(20, "give(0, 1)", "give(0, 0)"), Edges.times(14, "undo()"), "undo() = STATE",
            "undo() = STATE", "count(6) = 0")
        .broken("int undo(", "actsInRow <= 0", "actsInRow < 0")
        .broken("int undo(", "return STATE", "return 0");
  }
}
