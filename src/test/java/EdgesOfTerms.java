import java.util.List;

/** The sentences ahead of the promises that name a boundary case and belong to no one call alone. */
final class EdgesOfTerms {
  private static final String SEEN_FULL = Edges.times(6, "see(0, 0, 0)");
  private static final String SEATED = "line LP000P000P000T00100T00111";

  private EdgesOfTerms() {}

  static void addTo(List<Edge> edges) {
    edges.add(calls());
    edges.add(order());
    edges.add(refusedChangesNothing());
    edges.add(noneIs());
    edges.add(fractions());
    edges.add(ranges());
    edges.add(nothingIsChanged());
  }

  private static Edge calls() {
    return new Edge("What it is", "An object is used for at most 512 calls after it has been made")
        // 17 calls make THE LINE, 494 give the TICKET to and fro, the last one goes by it.
        .run("line LP010P010T00100", Edges.times(247, "give(0, 1) = 0", "give(0, 0) = 1"), "day() = 1")
        .run(Edges.times(51, "write(76)", "wipe() = 1", "day()", "undo() = 0", "glad() = 0", "keep(0) = 0",
            "again(0) = 0", "unsee() = 0", "years(30) = 0", "fault() = 0"), "line() = STATE", "count(3) = 0");
  }

  private static Edge order() {
    return new Edge("Terms", "REFUSALS, of several the first that a call names: UNKNOWN (there is no such PERSON, TICKET,"
        + " SLOT), OUTSIDE (another number is not as told), STATE (as told), FULL.")
        .run(Edges.times(64, "write(0)"), "write(256) = OUTSIDE", "write(-1) = OUTSIDE", "write(0) = FULL")
        .broken("int write(", "letter < 0 || letter > 255", "letters < MOST_LETTERS && (letter < 0 || letter > 255)")
        .run("line LP000", "person(1, 5) = UNKNOWN", "person(-1, -1) = UNKNOWN", "ticket(0, 7) = UNKNOWN",
            "ticket(-1, -1) = UNKNOWN")
        .broken("int person(int", "!told.hasPerson(person)", "what >= 0 && what <= 4 && !told.hasPerson(person)")
        .broken("int ticket(int", "!now.hasTicket(ticket)", "what >= 0 && what <= 6 && !now.hasTicket(ticket)")
        .run("line LP000P000T00100", "give(1, 1) = UNKNOWN", "lose(0) = 0", "give(0, 2) = UNKNOWN", "give(0, 0) = STATE",
            "change(0, 1) = UNKNOWN", "change(1, 0) = UNKNOWN", "change(1, 1) = UNKNOWN", "change(0, 0) = STATE")
        .broken("int give(", "!told.hasPerson(person)", "!now.isGone(ticket) && !told.hasPerson(person)")
        .broken("int change(", "!now.hasTicket(other)", "!now.isGone(ticket) && !now.hasTicket(other)")
        .broken("int change(", "!now.hasTicket(ticket) ||", "!now.isGone(other) && !now.hasTicket(ticket) ||")
        .run("line LP000", "day() = 0", "where(1, 11) = UNKNOWN", "where(1, 0) = UNKNOWN", "where(0, -1) = OUTSIDE",
            "where(0, 0) = STATE")
        .broken("int where(", "!told.hasPerson(person)", "day <= DAYS && !told.hasPerson(person)")
        .broken("int where(", "!told.hasPerson(person)", "day >= now.day && !told.hasPerson(person)")
        .broken("int where(", "day < 0 ||", "day < 0 && day >= now.day ||")
        .run("line LP000", "meet(1, 1) = UNKNOWN", "fewest(1, 1, true) = UNKNOWN", "fewest(1, 1, false) = UNKNOWN",
            "meet(0, 0) = OUTSIDE", "fewest(0, 0, true) = OUTSIDE", "fewest(0, 0, false) = OUTSIDE")
        .broken("int pairRefusal(", "if (!told.hasPerson(one) ||", "if (one != other && !told.hasPerson(one) || one != other &&")
        .run("line LP003", "blank(1, 10) = UNKNOWN", "blank(0, 10) = OUTSIDE", "blank(0, 9) = STATE")
        .broken("int blank(", "!told.hasPerson(person)", "isStop(stop) && !told.hasPerson(person)")
        .broken("int blank(", "!isStop(stop)", "told.kind[person] != STAYING && !isStop(stop)")
        .run("line LP000", SEEN_FULL, "see(1, 10, 0) = UNKNOWN", "see(1, 0, 11) = UNKNOWN", "see(1, 0, 0) = UNKNOWN",
            "see(0, 10, 0) = OUTSIDE", "see(0, 0, 11) = OUTSIDE", "see(0, 0, 0) = FULL")
        .broken("int see(", "!told.hasPerson(person)", "isStop(stop) && day <= DAYS && !told.hasPerson(person)")
        .broken("int see(", "!told.hasPerson(person)", "seenCount < MOST_SEEN && !told.hasPerson(person)")
        .broken("int see(", "!isStop(stop) ||", "seenCount < MOST_SEEN && !isStop(stop) ||")
        .broken("int see(", "day > DAYS", "seenCount < MOST_SEEN && day > DAYS")
        .run("line LP000", "losses(1, 10, 0, true) = UNKNOWN", "losses(1, 0, 11, false) = UNKNOWN")
        .broken("int losses(", "!told.hasPerson(person)", "isStop(stop) && !told.hasPerson(person)")
        .broken("int losses(", "!told.hasPerson(person)", "x <= TENTHS && !told.hasPerson(person)")
        .run("keep(2) = UNKNOWN", "again(2) = UNKNOWN", "again(1) = STATE");
  }

  private static Edge refusedChangesNothing() {
    String last = Edges.run(Edges.RICH, Edges.times(7, "day()"));
    String noActs = Edges.run("line LP010T00100", "day() = 1", "keep(0) = 1", "day() = 0", "again(0) = 1");
    return new Edge("Terms", "What is refused changes nothing.")
        .still(Edges.RICH, "write(-1) = OUTSIDE", "write(256) = OUTSIDE", "line() = STATE",
            "person(4, 0) = UNKNOWN", "person(0, 5) = OUTSIDE", "ticket(5, 0) = UNKNOWN", "ticket(0, 7) = OUTSIDE",
            "give(5, 0) = UNKNOWN", "give(1, 4) = UNKNOWN", "give(0, 1) = STATE", "give(1, 2) = STATE",
            "lose(5) = UNKNOWN", "lose(0) = STATE", "change(5, 1) = UNKNOWN", "change(1, 5) = UNKNOWN",
            "change(0, 1) = STATE", "change(2, 0) = STATE", "change(1, 4) = STATE", "change(2, 2) = STATE",
            "where(4, 9) = UNKNOWN", "where(0, 11) = OUTSIDE", "where(0, 2) = STATE",
            "meet(0, 4) = UNKNOWN", "meet(0, 0) = OUTSIDE", "fewest(4, 0, true) = UNKNOWN", "fewest(1, 1, false) = OUTSIDE",
            "falls(5) = UNKNOWN", "share(5, true) = UNKNOWN",
            "blank(4, 0) = UNKNOWN", "blank(0, 10) = OUTSIDE", "blank(3, 0) = STATE",
            "see(4, 0, 0) = UNKNOWN", "see(0, 10, 0) = OUTSIDE", "see(0, 0, 11) = OUTSIDE",
            "held(5) = UNKNOWN", "held(0) = STATE", "losses(4, 0, 0, true) = UNKNOWN", "losses(0, 10, 0, true) = OUTSIDE",
            "losses(0, 0, 11, false) = OUTSIDE", "years(0) = OUTSIDE", "years(31) = OUTSIDE",
            "keep(2) = UNKNOWN", "again(2) = UNKNOWN", "count(8) = OUTSIDE")
        .still("line LP010P020T00100; text LP990P550T09801X", "line() = STATE")
        .still(last, "day() = STATE", "where(0, 9) = STATE")
        .still(noActs, "undo() = STATE", "again(1) = STATE", "day() = 0; undo() = 0")
        .still(Edges.times(64, "write(76)"), "write(76) = FULL")
        .still(Edges.run("line LP000T00100", SEEN_FULL), "see(0, 1, 0) = FULL")
        .broken("int write(", "return OUTSIDE", "letters = 0;\n            return OUTSIDE")
        .broken("int write(", "return FULL", "letters--;\n            return FULL")
        .broken("int line(", "return STATE", "forgetActs();\n            return STATE")
        .broken("int line(", "return STATE", "keptSlots = 0;\n            return STATE")
        .broken("int line(", "return STATE", "told.copy(draft);\n            return STATE")
        .broken("int line(", "return STATE", "letters = 0;\n            return STATE")
        .broken("int day(", "if (", "rememberAct();\n        if (")
        .broken("int give(", "if (!now.canBeGiven", "rememberAct();\n        if (!now.canBeGiven")
        .broken("int give(", "return STATE", "now.holder[ticket] = person;\n            return STATE")
        .broken("int lose(", "if (now.isGone", "rememberAct();\n        if (now.isGone")
        .broken("int change(", "if (!now.canBeChanged", "rememberAct();\n        if (!now.canBeChanged")
        .broken("int change(", "return STATE", "now.swapHolders(ticket, other);\n            return STATE")
        .broken("int undo(", "return STATE", "now.begin();\n            return STATE")
        .broken("int see(", "return FULL", "seenCount = 0;\n            return FULL")
        .broken("int see(", "return FULL", "seenStop[0] = stop;\n            return FULL")
        .broken("int years(", "return OUTSIDE", "theSeed++;\n            return OUTSIDE")
        .broken("int keep(", "return UNKNOWN", "keepIn(kept, 0);\n            return UNKNOWN")
        .broken("int again(", "return UNKNOWN", "forgetActs();\n            return UNKNOWN")
        .broken("int again(", "return STATE", "now.begin();\n            return STATE");
  }

  private static Edge noneIs() {
    return new Edge("Terms", "NONE is -9.")
        .run("text L", "fault() = -9", "twoSeats() = -9", "bestChange() = -9")
        .run("line LP000P000", "person(0, 4) = -9", "meet(0, 1) = -9", "fewest(0, 1, true) = -9",
            "fewest(0, 1, false) = -9", Edges.times(10, "day()"), "blank(0, 1) = -9")
        .broken("int UNKNOWN", "NONE = -9", "NONE = -8");
  }

  private static Edge fractions() {
    return new Edge("Terms", "FRACTIONS are told above (upper = true; below 0, if they are), below (1 and more), in least"
        + " terms; refusals of them are told likewise.")
        .run("line LP000T00100T11000", "share(0, true) = -1", "share(0, false) = 2", "share(1, true) = 1",
            "share(1, false) = 2")
        .run("line LP000T00100", "share(0, true) = -1", "share(0, false) = 1")
        .run("line LP000T01200", "share(0, true) = 0", "share(0, false) = 1", "losses(0, 1, 5, true) = 0",
            "losses(0, 1, 5, false) = 1", "losses(0, 0, 5, true) = 1", "losses(0, 0, 5, false) = 1")
        .run("line LP020T00100T11200", "losses(0, 2, 5, true) = 1", "losses(0, 2, 5, false) = 4",
            "losses(0, 0, 6, true) = 3", "losses(0, 0, 6, false) = 5")
        .run("line LP010", "share(0, true) = UNKNOWN", "share(0, false) = UNKNOWN", "losses(1, 0, 0, true) = UNKNOWN",
            "losses(1, 0, 0, false) = UNKNOWN", "losses(0, 10, 0, true) = OUTSIDE", "losses(0, 10, 0, false) = OUTSIDE",
            "losses(0, 0, 11, true) = OUTSIDE", "losses(0, 0, 11, false) = OUTSIDE")
        .broken("int fraction(", "Math.abs(above)", "above")
        .broken("int fraction(", "/ common", "/ 1")
        .broken("int fraction(", "upper ? above : below", "upper ? below : above")
        .broken("int share(", "return UNKNOWN", "return upper ? UNKNOWN : 1")
        .broken("int losses(", "return UNKNOWN", "return upper ? UNKNOWN : 1")
        .broken("int losses(", "return OUTSIDE", "return upper ? OUTSIDE : 1");
  }

  private static Edge ranges() {
    return new Edge("Terms", "STOPS are 0 to 9 in a row, DAYS 0 to 9, SEATS 0 to 9.")
        .run("line LP090P900T00990T99001", "person(0, 0) = 0", "person(0, 1) = 9", "person(1, 0) = 9", "person(1, 1) = 0",
            "ticket(0, 0) = 0", "ticket(0, 1) = 0", "ticket(0, 2) = 9", "ticket(0, 3) = 9", "ticket(1, 0) = 9",
            "ticket(1, 1) = 9", "ticket(1, 2) = 0", "ticket(1, 3) = 0", "where(0, 10) = 9", "where(1, 9) = 9",
            "where(1, 10) = 0")
        .run("text LP/", "fault() = 2", "text LP:", "fault() = 2", "text LP0/", "fault() = 3", "text LP0:", "fault() = 3",
            "text LP00/", "fault() = 4", "text LP00:", "fault() = 4")
        .run("text LP000T/", "fault() = 6", "text LP000T:", "fault() = 6", "text LP000T0/", "fault() = 7",
            "text LP000T0:", "fault() = 7", "text LP000T00/", "fault() = 8", "text LP000T00:", "fault() = 8",
            "text LP000T001/", "fault() = 9", "text LP000T001:", "fault() = 9", "text LP000T0010/", "fault() = 10",
            "text LP000T0010:", "fault() = 10")
        .run("text LP", "write(0)", "fault() = 2", "text LP", "write(255)", "fault() = 2", "text LP", "write(9)", "fault() = 2")
        .run("line LP000", "blank(0, -1) = OUTSIDE", "blank(0, 0) = 100", "blank(0, 9) = 90", "blank(0, 10) = OUTSIDE")
        .broken("boolean figureFits(", "figure < 0", "figure < -1")
        .broken("boolean figureFits(", "figure < 0", "figure < 1")
        .broken("boolean figureFits(", "figure > 9", "figure > 10")
        .broken("boolean figureFits(", "figure > 9", "figure > 8")
        .broken("boolean isStop(", "number >= 0", "number >= 1")
        .broken("boolean isStop(", "number >= 0", "number >= -1")
        .broken("boolean isStop(", "number < STOPS", "number <= STOPS")
        .broken("boolean isStop(", "number < STOPS", "number < STOPS - 1");
  }

  private static Edge nothingIsChanged() {
    String[] questions = {"where(0, 10)", "meet(0, 1)", "twoSeats()", "fewest(0, 1, true)", "fewest(2, 3, false)", "glad()",
        "falls(4)", "bestChange()", "share(4, true)", "blank(0, 3)", "blank(1, 1)", "held(4)", "losses(2, 5, 3, true)"};
    return new Edge("Terms", "In what follows nothing is changed.")
        .still(Edges.RICH, questions)
        .still(SEATED, questions[0], "meet(0, 1) = 0", "twoSeats() = NONE", "fewest(0, 1, true) = 0",
            "fewest(0, 2, true) = 12", "glad() = 1", "falls(0) = 101", "bestChange() = NONE", "share(0, true) = -1",
            "blank(2, 1) = 12", "held(0) = 7", "losses(0, 1, 5, true) = 1")
        .broken("int where(", "trial.start(now)", "now.day = day;\n        trial.start(now)")
        .broken("int meet(", "trial.start(now)", "now.passDay(trial.rides);\n        trial.start(now)")
        .broken("int twoSeats(", "trial.start(now)", "now.passDay(trial.rides);\n        trial.start(now)")
        .broken("int fewest(", "return 0;", "rememberAct();\n            return 0;")
        .broken("int firstGift(", "trial.moment.holder[ticket] = person", "trial.moment.holder[ticket] = now.holder[ticket] = person")
        .broken("int glad(", "trial.start(now)", "now.passDay(trial.rides);\n        trial.start(now)")
        .broken("int falls(", "trial.moment.gone |=", "trial.moment.gone = now.gone |=")
        .broken("int gladIfChanged(", "trial.moment.swapHolders", "now.swapHolders")
        .broken("int gladWithOnly(", "trial.moment.gone |= ~come", "trial.moment.gone = now.gone |= ~come & 63")
        .broken("int addBlank(", "line.from[number] = from;", "line.from[number] = from;\n            line.tickets = number < 6 ? number + 1 : 6;")
        .broken("int held(", "trial.moment.holder[ticket] = person", "now.holder[ticket] = trial.moment.holder[ticket] = person")
        .broken("boolean endsAtAfterLosing(", "trial.moment.gone |=", "trial.moment.gone = now.gone |=");
  }
}
