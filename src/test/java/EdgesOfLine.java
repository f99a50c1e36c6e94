import java.util.List;

/** The boundary cases of the text and the line: promises 1 to 7, and the words of Terms that they use. */
final class EdgesOfLine {
  private static final String FIVE = "P000P000P000P000P000";
  private static final String SIX = "T00100T00100T00100T00100T00100T00100";

  private EdgesOfLine() {}

  static void addTo(List<Edge> edges) {
    edges.add(textLength());
    edges.add(parts());
    edges.add(mostPeople());
    edges.add(mostTickets());
    edges.add(numbers());
    edges.add(kinds());
    edges.add(anotherStop());
    edges.add(toldAhead());
    edges.add(firstFault());
    edges.add(onlyNotAtItsEnd());
    edges.add(noFault());
    edges.add(nobody());
    edges.add(madeAnew());
    edges.add(newObject());
    edges.add(letter());
    edges.add(full());
    edges.add(wipe());
    edges.add(fault());
    edges.add(rowAndSlots());
    edges.add(seenAndSeed());
    edges.add(peopleAndTickets());
    edges.add(lineState());
    edges.add(person());
    edges.add(personHolds());
    edges.add(personGoes());
    edges.add(personRefused());
    edges.add(ticket());
    edges.add(ticketRefused());
  }

  private static Edge textLength() {
    return new Edge("Terms", "THE TEXT is letters (64 at most).")
        .run(Edges.times(63, "write(76)"), "count(0) = 63", "write(76) = 64", "count(0) = 64", "write(76) = FULL", "count(0) = 64")
        .broken("private static final int MOST_LETTERS", "64", "63")
        .broken("private static final int MOST_LETTERS", "64", "65");
  }

  private static Edge parts() {
    return new Edge("Terms", "A LINE is a TEXT: L, then PARTS, none or more")
        .run("text L", "fault() = NONE", "line() = 0", "text LP000", "fault() = NONE", "text LP000P000", "fault() = NONE",
            "text LP000T00100", "fault() = NONE", "text LP000T00100P000T00101P000", "fault() = NONE", "line() = 32")
        .run("text P", "fault() = 0", "text l", "fault() = 0", "text PL", "fault() = 0", "text LL", "fault() = 1",
            "text Lp", "fault() = 1", "text LP000L", "fault() = 5", "text LP000t", "fault() = 5", "text LP0000", "fault() = 5",
            "text LP000T00100X", "fault() = 11")
        .broken("int read(", "letters < 1", "letters < 2")
        .broken("int read(", "text[0] != 'L'", "text[0] == 'X'")
        .broken("int partSize(", "letter == 'P'", "letter != 'T'")
        .broken("int partSize(", "letter == 'T'", "letter != 'P'");
  }

  private static Edge mostPeople() {
    return new Edge("Terms", "PEOPLE (5 at most)")
        .run("text L" + FIVE, "fault() = NONE", "line() = 50", "person(4, 0) = 0", "write(80) = 22", "fault() = 21",
            "line() = STATE", "count(1) = 5")
        .run("text L" + FIVE + "P000", "fault() = 21", "line() = STATE", "count(1) = 0")
        .broken("private static final int MOST_LETTERS", "MOST_PEOPLE = 5", "MOST_PEOPLE = 4")
        .broken("private static final int MOST_LETTERS", "MOST_PEOPLE = 5", "MOST_PEOPLE = 6");
  }

  private static Edge mostTickets() {
    return new Edge("Terms", "TICKETS (6 at most)")
        .run("text LP000" + SIX, "fault() = NONE", "line() = 16", "ticket(5, 2) = 1", "write(84) = 42", "fault() = 41",
            "line() = STATE", "count(2) = 6")
        .run("text LP000" + SIX + "T00100", "fault() = 41", "text LP000" + SIX + "P000", "fault() = NONE")
        .broken("private static final int MOST_LETTERS", "MOST_TICKETS = 6", "MOST_TICKETS = 5")
        .broken("private static final int MOST_LETTERS", "MOST_TICKETS = 6", "MOST_TICKETS = 7");
  }

  private static Edge numbers() {
    return new Edge("Terms", "are numbered as they are told, each for itself")
        .run("line LP120P341T56780P563T91201", "person(0, 0) = 1", "person(1, 0) = 3", "person(2, 0) = 5", "ticket(0, 0) = 5",
            "ticket(0, 1) = 6", "ticket(1, 0) = 9", "ticket(1, 4) = 1", "person(3, 0) = UNKNOWN", "ticket(2, 0) = UNKNOWN")
        .broken("void takePart(", "forDay[tickets]", "forDay[people - 1]")
        .broken("void takePart(", "home[people]", "home[tickets]");
  }

  private static Edge kinds() {
    return new Edge("Terms", "a PERSON at STOP h, that would like to be at STOP w, of KIND k: 0 PLAIN, 1 CHILD, 2 READER, 3 STAYING")
        .run("text LP003", "fault() = NONE", "text LP004", "fault() = 4", "text LP009", "fault() = 4")
        .run("line LP000P001P002P003T00100T00101T00102T00103", "day() = 7", "ticket(0, 6) = 1", "ticket(1, 6) = 0",
            "ticket(1, 5) = 1", "ticket(2, 6) = 0", "ticket(2, 4) = 3", "ticket(3, 6) = 0", "ticket(3, 4) = 3",
            "ticket(3, 0) = 0")
        .broken("private static final int CHILD", "LAST_KIND = 3", "LAST_KIND = 2")
        .broken("private static final int CHILD", "LAST_KIND = 3", "LAST_KIND = 4")
        .broken("private static final int CHILD", "CHILD = 1, READER = 2", "CHILD = 2, READER = 1")
        .broken("private static final int CHILD", "CHILD = 1", "CHILD = 0")
        .broken("private static final int CHILD", "STAYING = 3", "STAYING = 2");
  }

  private static Edge anotherStop() {
    return new Edge("Terms", "a TICKET for DAY d, from STOP a to another STOP b")
        .run("text LP000T055", "fault() = 8", "text LP000T05500", "fault() = 8", "text LP000T054", "fault() = 9",
            "text LP000T056", "fault() = 9", "text LP000T000", "fault() = 8", "text LP000T099", "fault() = 8",
            "text LP000T55600", "fault() = NONE")
        .broken("boolean figureFits(", "figure != text[start + 2] - '0'", "true")
        .broken("boolean figureFits(", "figure != text[start + 2] - '0'", "figure > text[start + 2] - '0'")
        .broken("boolean figureFits(", "figure != text[start + 2] - '0'", "figure != text[start + 1] - '0'");
  }

  private static Edge toldAhead() {
    return new Edge("Terms", "SEAT s, that PERSON p (told ahead) holds")
        .run("text LT", "fault() = 1", "text LT00100P000", "fault() = 1", "text LP000T00101", "fault() = 10",
            "text LP000T00101P000", "fault() = 10", "text LP000P000T00101", "fault() = NONE",
            "text LP000P000T00102", "fault() = 14", "text L" + FIVE + "T00104", "fault() = NONE",
            "text L" + FIVE + "T00105", "fault() = 26")
        .broken("boolean figureFits(", "figure < people", "figure <= people")
        .broken("boolean figureFits(", "figure < people", "figure < people - 1")
        .broken("boolean figureFits(", "step != 5 ||", "step != 6 ||")
        .broken("int partSize(", " && people > 0", "");
  }

  private static Edge firstFault() {
    return new Edge("Terms", "FAULT: the place of the first letter by which THE TEXT can be no LINE, whatever came behind it"
        + " (its length set aside)")
        .run("text XLP000", "fault() = 0", "text LXP000", "fault() = 1", "text LP0X0P000", "fault() = 3",
            "text LP0X0P0X0", "fault() = 3", "text LP000XP000", "fault() = 5", "text LP000T00X00", "fault() = 8")
        .run(Edges.times(64, "write(88)"), "fault() = 0")
        .run("text L" + FIVE + SIX + "P000P00", "count(0) = 64", "fault() = 57")
        .run("text L" + FIVE + SIX + "T001000", "count(0) = 64", "fault() = 57")
        .broken("int read(", "return place", "return letters")
        .broken("int partFault(", "return place", "return letters")
        .broken("int partFault(", "return place", "return start");
  }

  private static Edge onlyNotAtItsEnd() {
    return new Edge("Terms", "its length, if it is only not at its end")
        .run("fault() = 0", "text LP", "fault() = 2", "text LP0", "fault() = 3", "text LP00", "fault() = 4",
            "text LP000P", "fault() = 6", "text LP000T", "fault() = 6", "text LP000T0", "fault() = 7",
            "text LP000T00", "fault() = 8", "text LP000T001", "fault() = 9", "text LP000T0010", "fault() = 10")
        .run("text L" + FIVE + SIX.substring(0, 35), "fault() = 56")
        .broken("int partFault(", "return letters", "return start")
        .broken("int partFault(", "return letters", "return NONE")
        .broken("int read(", "if (letters < 1 ||", "if (letters < 1) {\n                return NONE;\n            }\n            if (");
  }

  private static Edge noFault() {
    return new Edge("Terms", "NONE: none. At first there is nobody.")
        .run("text L", "fault() = NONE", "text LP000", "fault() = NONE", "text LP000T00100", "fault() = NONE",
            "text L" + FIVE + SIX, "fault() = NONE")
        .broken("int read(", "return NONE", "return letters");
  }

  private static Edge nobody() {
    return new Edge("Terms", "At first there is nobody.")
        .run("count(1) = 0", "count(2) = 0", "person(0, 0) = UNKNOWN", "ticket(0, 0) = UNKNOWN", "day() = 0", "lose(0) = UNKNOWN",
            "give(0, 0) = UNKNOWN", "change(0, 0) = UNKNOWN", "glad() = 0", "twoSeats() = NONE", "bestChange() = NONE",
            "where(0, 1) = UNKNOWN", "meet(0, 1) = UNKNOWN", "held(0) = UNKNOWN", "see(0, 0, 0) = UNKNOWN", "years(30) = 0",
            "count(3) = 1", "count(4) = 0", "count(5) = 0", "count(6) = 1")
        .broken("class Line", "int people = 0", "int people = 1")
        .broken("class Line", "int tickets = 0", "int tickets = 1")
        .broken("class Moment", "int tickets = 0", "int tickets = 1")
        .broken("class Moment", "int gone = 0", "int gone = 1");
  }

  private static Edge madeAnew() {
    return new Edge("Terms", "THE DAY is 0, all are at home, when THE LINE is made anew.")
        .run("line LP121P342P560T01230T03401T05602", "day() = 7", "give(1, 1) = 2", "line() = 33", "count(3) = 0", "count(4) = 0",
            "person(0, 0) = 1", "person(1, 0) = 3", "person(2, 0) = 5", "ticket(0, 0) = 0", "ticket(0, 1) = 1", "ticket(0, 2) = 2",
            "ticket(0, 5) = 0", "ticket(1, 0) = 0", "ticket(1, 4) = 1", "ticket(2, 6) = 0", "day() = 7")
        .run("line LP120T01200", Edges.times(10, "day()"), "day() = STATE", "line() = 11", "count(3) = 0", "day() = 1")
        .run("line LP120P340T01200T03401", "lose(0) = 0", "line LP990T99800", "person(0, 0) = 9", "person(1, 0) = UNKNOWN",
            "ticket(1, 0) = UNKNOWN", "count(4) = 0", "where(0, 10) = 8")
        .broken("void begin(", "day = 0;", "")
        .broken("void begin(", "tickets = line.tickets;", "tickets = Math.max(tickets, line.tickets);")
        .broken("void begin(", "returns = 0;", "")
        .broken("void begin(", "gone = 0;", "")
        .broken("void begin(", "System.arraycopy(line.home, 0, at, 0, MOST_PEOPLE);", "")
        .broken("void begin(", "System.arraycopy(line.forDay, 0, forDay, 0, MOST_TICKETS);", "")
        .broken("void begin(", "System.arraycopy(line.holder, 0, holder, 0, MOST_TICKETS);", "");
  }

  private static Edge newObject() {
    return new Edge("Promise 1", "Nobody.")
        .run("count(0) = 0", "count(1) = 0", "count(2) = 0", "count(3) = 0", "count(4) = 0", "count(5) = 0", "count(6) = 0",
            "count(7) = 0", "fault() = 0", "line() = STATE", "undo() = STATE", "again(0) = STATE", "again(1) = STATE",
            "wipe() = 0", "unsee() = 0", "seed(0) = 0")
        .broken("private final int[] text", "letters = 0", "letters = 1")
        .broken("private final int[] text", "actsInRow = 0", "actsInRow = 1")
        .broken("private final int[] text", "seenCount = 0", "seenCount = 1")
        .broken("private final int[] text", "theSeed = 0", "theSeed = 1")
        .broken("class Moment", "int day = 0", "int day = 1");
  }

  private static Edge letter() {
    return new Edge("Promise 2", "A letter (0 to 255) comes behind THE TEXT: how long it is. OUTSIDE")
        .run("write(0) = 1", "write(255) = 2", "write(-1) = OUTSIDE", "write(256) = OUTSIDE", "write(332) = OUTSIDE",
            "write(MIN) = OUTSIDE", "write(MAX) = OUTSIDE", "count(0) = 2", "wipe() = 2", "write(332) = OUTSIDE", "write(76) = 1",
            "fault() = NONE", "write(0) = 2", "fault() = 1")
        .broken("int write(", "letter < 0", "letter < 1")
        .broken("int write(", "letter < 0", "letter < -1")
        .broken("int write(", "letter > 255", "letter > 254")
        .broken("int write(", "letter > 255", "letter > 256");
  }

  private static Edge full() {
    return new Edge("Promise 2", "FULL: there are 64.")
        .run(Edges.times(63, "write(0)"), "write(0) = 64", "write(0) = FULL", "write(255) = FULL", "count(0) = 64", "wipe() = 64",
            "write(0) = 1")
        .broken("int write(", "letters >= MOST_LETTERS", "letters > MOST_LETTERS")
        .broken("int write(", "letters >= MOST_LETTERS", "letters >= MOST_LETTERS - 1")
        .broken("int write(", "return FULL", "return OUTSIDE");
  }

  private static Edge wipe() {
    return new Edge("Promise 3", "THE TEXT is empty: how long it was.")
        .run("wipe() = 0", "write(76) = 1", "wipe() = 1", "wipe() = 0", "count(0) = 0", "fault() = 0")
        .run(Edges.times(64, "write(76)"), "wipe() = 64", "count(0) = 0", "write(76) = 1", "fault() = NONE")
        .run("line LP120T01230", "wipe() = 11", "count(1) = 1", "person(0, 0) = 1", "line() = STATE", "day() = 1")
        .run("text LP000T01230", "text LP000T0", "fault() = 7", "text LP00", "fault() = 4", "text LP000T0123", "line() = STATE")
        .broken("int wipe(", "letters = 0;", "")
        .broken("int wipe(", "return before", "return letters")
        .broken("int partFault(", "if (place >= letters)", "if (place >= letters && text[place] == 0)");
  }

  private static Edge fault() {
    return new Edge("Promise 4", "FAULT; NONE.")
        .run("fault() = 0", "text L", "fault() = NONE", "fault() = NONE", "text X", "fault() = 0", "text LP", "fault() = 2")
        .run("line LP991", "text LP120P", "fault() = 6", "count(1) = 1", "person(0, 0) = 9", "person(0, 1) = 9", "person(0, 2) = 1",
            "count(0) = 6", "text LP120P341", "fault() = NONE", "count(1) = 1", "person(0, 2) = 1")
        .broken("int fault(", "draft.read", "told.read");
  }

  private static Edge rowAndSlots() {
    return new Edge("Promise 5", "THE TEXT is THE LINE (THE ROW of ACTS is empty, what was kept is gone")
        .run("line LP000P000T00100", "day() = 1", "lose(0) = STATE", "undo() = 0", "give(0, 1) = 0", "lose(0) = 1", "line() = 21",
            "count(6) = 0", "undo() = STATE", "ticket(0, 4) = 0")
        .run("line LP000", "keep(0) = 0", "line() = 10", "again(0) = STATE", "keep(1) = 0", "line() = 10", "again(1) = STATE",
            "keep(0) = 0", "again(0) = 0", "again(1) = STATE")
        .run("keep(0) = 0", "line LP000", "again(0) = STATE", "count(1) = 1")
        .broken("int line(", "forgetActs();", "")
        .broken("int line(", "keptSlots = 0;", "keptSlots &= 1;")
        .broken("int line(", "keptSlots = 0;", "keptSlots &= 2;");
  }

  private static Edge seenAndSeed() {
    return new Edge("Promise 5", "what is SEEN, THE SEED stay)")
        .run("line LP000P000T00100", "see(0, 1, 1) = 1", "see(1, 0, 1) = 2", "seed(-5) = 0", "line() = 21", "count(7) = 2",
            "held(0) = 1", "seed(0) = -5")
        .broken("int line(", "keptSlots = 0;", "keptSlots = 0;\n        seenCount = 0;")
        .broken("int line(", "keptSlots = 0;", "keptSlots = 0;\n        theSeed = 0;");
  }

  private static Edge peopleAndTickets() {
    return new Edge("Promise 5", "10 times PEOPLE, and TICKETS.")
        .run("text L", "line() = 0", "text LP000", "line() = 10", "text LP000T00100", "line() = 11", "text L" + FIVE + SIX,
            "line() = 56", "line() = 56", "count(0) = 57", "text LP000" + SIX, "line() = 16", "text L", "line() = 0",
            "count(1) = 0", "count(2) = 0", "person(0, 0) = UNKNOWN", "ticket(0, 0) = UNKNOWN")
        .broken("int line(", "10 * told.people", "11 * told.people")
        .broken("int line(", "+ told.tickets", "");
  }

  private static Edge lineState() {
    return new Edge("Promise 5", "STATE: a FAULT.")
        .run("line() = STATE", "text X", "line() = STATE", "text LP", "line() = STATE", "text LP000P", "line() = STATE",
            "text LP004", "line() = STATE", "text LP000T00101", "line() = STATE", "count(1) = 0", "count(2) = 0")
        .run("line LP120T01200", "day() = 1", "keep(0) = 1", "text LP990P", "line() = STATE", "person(0, 0) = 2", "count(1) = 1",
            "count(3) = 1", "count(6) = 1", "again(0) = 1")
        .broken("int line(", "!= NONE", "== 0")
        .broken("int line(", "return STATE", "return OUTSIDE");
  }

  private static Edge person() {
    return new Edge("Promise 6", "Of a PERSON where it is (what = 0), where it would like to be (1), KIND (2)")
        .run("line LP093P901", "person(0, 0) = 0", "person(0, 1) = 9", "person(0, 2) = 3", "person(1, 0) = 9", "person(1, 1) = 0",
            "person(1, 2) = 1")
        .broken("int person(int", "now.at[person]", "told.liked[person]")
        .broken("int person(int", "told.liked[person]", "told.home[person]")
        .broken("int person(int", "told.kind[person]", "told.home[person]")
        .run("line LP120T01300", "day() = 1", "person(0, 0) = 3", "person(0, 1) = 2")
        .broken("int person(int", "now.at[person]", "told.home[person]");
  }

  private static Edge personHolds() {
    return new Edge("Promise 6", "TICKETS that it holds (3: bits)")
        .run("line LP000P000" + SIX, "person(0, 3) = 63", "person(1, 3) = 0", "give(5, 1) = 0", "person(0, 3) = 31", "person(1, 3) = 32",
            "lose(5) = 1", "person(1, 3) = 0", "day() = 1", "person(0, 3) = 30")
        .run("line LP000", "person(0, 3) = 0")
        .broken("int heldBy(", "!isGone(ticket) && ", "")
        .broken("int heldBy(", "ticket < tickets", "ticket < tickets - 1");
  }

  private static Edge personGoes() {
    return new Edge("Promise 6", "by which one it goes this DAY (4; NONE).")
        .run("line LP000P003P500T10100T00100T00101T00202T06702", "person(0, 4) = 1", "person(1, 4) = NONE", "person(2, 4) = NONE",
            "lose(1) = 0", "person(0, 4) = NONE", "day() = 0", "person(0, 4) = 0", "day() = 1", "person(0, 4) = NONE")
        .run("line LP000T90100", "person(0, 4) = NONE", Edges.times(9, "day()"), "person(0, 4) = 0", "day() = 1",
            "person(0, 4) = NONE", "undo() = 9", "lose(0) = 0", "day() = 0", "person(0, 4) = NONE")
        .run("line LP000", "person(0, 4) = NONE")
        .broken("int rideOf(", "now.findRides(trial.rides);", "")
        .broken("boolean canTake(", "(gone & bit) == 0 && ", "")
        .broken("boolean canTake(", "line.kind[person] != STAYING && ", "")
        .broken("boolean canTake(", " && start == at[person]", "");
  }

  private static Edge personRefused() {
    return new Edge("Promise 6", "UNKNOWN; OUTSIDE.")
        .run("line L" + FIVE, "person(4, 0) = 0", "person(5, 0) = UNKNOWN", "person(-1, 0) = UNKNOWN", "person(MIN, 0) = UNKNOWN",
            "person(MAX, 0) = UNKNOWN", "person(0, 4) = NONE", "person(0, 5) = OUTSIDE", "person(0, -1) = OUTSIDE",
            "person(0, MIN) = OUTSIDE", "person(0, MAX) = OUTSIDE")
        .run("line LP000P000", "person(1, 0) = 0", "person(2, 0) = UNKNOWN")
        .broken("boolean hasPerson(", "number < people", "number <= people")
        .broken("boolean hasPerson(", "number < people", "number < people - 1")
        .broken("boolean hasPerson(", "number < people", "number < MOST_PEOPLE")
        .broken("boolean hasPerson(", "number >= 0 && ", "")
        .broken("int person(int", "default: return OUTSIDE", "default: return NONE");
  }

  private static Edge ticket() {
    return new Edge("Promise 7", "Of a TICKET its DAY (what = 0), from (1), to (2), SEAT (3), who holds it (4), 1 if it is a return (5):"
        + " as it was last, if it is gone; 1 if it is gone (6).")
        .run("line LP121P343T01230T98761", "ticket(0, 5) = 0", "ticket(0, 6) = 0", "day() = 1", "ticket(0, 0) = 1", "ticket(0, 1) = 2",
            "ticket(0, 2) = 1", "ticket(0, 3) = 3", "ticket(0, 4) = 0", "ticket(0, 5) = 1", "ticket(0, 6) = 0", "day() = 1",
            "ticket(0, 0) = 1", "ticket(0, 1) = 2", "ticket(0, 2) = 1", "ticket(0, 3) = 3", "ticket(0, 4) = 0", "ticket(0, 5) = 1",
            "ticket(0, 6) = 1", "lose(1) = 1", "ticket(1, 0) = 9", "ticket(1, 1) = 8", "ticket(1, 2) = 7", "ticket(1, 3) = 6",
            "ticket(1, 4) = 1", "ticket(1, 5) = 0", "ticket(1, 6) = 1")
        .run("line LP120P340T01230", "give(0, 1) = 0", "lose(0) = 1", "ticket(0, 4) = 1", "ticket(0, 6) = 1")
        .broken("int ticket(int", "now.holder[ticket]", "now.isGone(ticket) ? NONE : now.holder[ticket]")
        .broken("int ticket(int", "now.isReturn(ticket) ?", "now.isReturn(ticket) && !now.isGone(ticket) ?")
        .broken("int ticket(int", "now.from(ticket)", "told.from[ticket]")
        .broken("int ticket(int", "now.to(ticket)", "told.to[ticket]")
        .broken("int ticket(int", "now.forDay[ticket]", "told.forDay[ticket]")
        .broken("int ticket(int", "told.seat[ticket]", "told.from[ticket]")
        .broken("int ticket(int", "now.isGone(ticket) ? 1 : 0", "0");
  }

  private static Edge ticketRefused() {
    return new Edge("Promise 7", "UNKNOWN; OUTSIDE.")
        .run("line LP000" + SIX, "ticket(5, 0) = 0", "ticket(6, 0) = UNKNOWN", "ticket(-1, 0) = UNKNOWN", "ticket(MIN, 0) = UNKNOWN",
            "ticket(MAX, 0) = UNKNOWN", "ticket(0, 6) = 0", "ticket(0, 7) = OUTSIDE", "ticket(0, -1) = OUTSIDE",
            "ticket(0, MIN) = OUTSIDE", "ticket(0, MAX) = OUTSIDE")
        .run("line LP000T00100", "ticket(0, 2) = 1", "ticket(1, 0) = UNKNOWN", "lose(0) = 0", "ticket(0, 2) = 1", "ticket(0, 7) = OUTSIDE")
        .broken("boolean hasTicket(", "number < tickets", "number <= tickets")
        .broken("boolean hasTicket(", "number < tickets", "number < tickets - 1")
        .broken("boolean hasTicket(", "number < tickets", "number < MOST_TICKETS")
        .broken("boolean hasTicket(", "number >= 0 && ", "")
        .broken("int ticket(int", "default: return OUTSIDE", "default: return NONE");
  }
}
