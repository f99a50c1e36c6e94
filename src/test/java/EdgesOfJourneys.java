import java.util.List;

/** The boundary cases of journeys: promises 13 to 21, and the words of Terms that they use. */
final class EdgesOfJourneys {
  private EdgesOfJourneys() {}

  static void addTo(List<Edge> edges) {
    edges.add(whereIs());
    edges.add(together());
    edges.add(oneSeat());
    edges.add(meetFrom());
    edges.add(doubleFrom());
    edges.add(fewestGiven());
    edges.add(firstRow());
    edges.add(gladAtTheEnd());
    edges.add(fallsOfJourneys());
    edges.add(changeOfMost());
    edges.add(shareOf());
    edges.add(shareOfGone());
    edges.add(blankBehindAll());
    edges.add(blankLeast());
    edges.add(blankSeats());
    edges.add(noBlank());
    edges.add(where());
    edges.add(meet());
    edges.add(twoSeats());
    edges.add(fewest());
    edges.add(fewestRefused());
    edges.add(glad());
    edges.add(falls());
    edges.add(bestChange());
    edges.add(share());
    edges.add(blank());
    edges.add(blankRefused());
  }

  private static Edge whereIs() {
    return new Edge("Terms", "WHERE a PERSON is at the beginning of a DAY (THE DAY to 10).")
        .run("line LP120T01400T94700", "where(0, 0) = 1", "where(0, 1) = 4", "where(0, 9) = 4", "where(0, 10) = 7", "day() = 1",
            "where(0, 1) = 4", "where(0, 10) = 7", Edges.times(8, "day() = 0"), "where(0, 9) = 4", "where(0, 10) = 7", "day() = 1",
            "where(0, 10) = 7")
        .broken("int where(", "day > DAYS", "day >= DAYS")
        .broken("int where(", "day < now.day", "day <= now.day")
        .broken("int where(", "passDaysTo(day)", "passDaysTo(day - 1)")
        .broken("int where(", "passDaysTo(day)", "passDaysTo(day + 1)");
  }

  private static Edge together() {
    return new Edge("Terms", "TOGETHER are two that go on one DAY, if some stretch between two STOPS next to each other is gone over"
        + " by both")
        .run("line LP200P500T02500T05901", "meet(0, 1) = NONE", "meet(1, 0) = NONE")
        .run("line LP200P900T02500T09501", "meet(0, 1) = NONE", "meet(1, 0) = NONE")
        .run("line LP500P500T05200T05901", "meet(0, 1) = NONE", "meet(1, 0) = NONE")
        .run("line LP200P900T05200T05901", "meet(0, 1) = NONE")
        .run("line LP000P800T00100T08901", "meet(0, 1) = NONE", "meet(1, 0) = NONE")
        .run("line LP200P400T02500T04901", "meet(0, 1) = 0", "meet(1, 0) = 0")
        .run("line LP200P900T02500T09401", "meet(0, 1) = 0", "meet(1, 0) = 0")
        .run("line LP500P400T05200T04901", "meet(0, 1) = 0")
        .run("line LP500P900T05200T09401", "meet(0, 1) = 0")
        .run("line LP200P500T02500T05201", "meet(0, 1) = 0")
        .run("line LP000P400T00900T04501", "meet(0, 1) = 0")
        .run("line LP000P500T00900T05401", "meet(0, 1) = 0")
        .run("line LP000P000T00100T00101", "meet(0, 1) = 0")
        .run("line LP800P900T08900T09801", "meet(0, 1) = 0")
        .run("line LP200P200T02500T12501", "meet(0, 1) = NONE")
        .run("line LP200P203T02500T02501", "meet(0, 1) = NONE")
        .run("line LP200P300T02500T02501", "meet(0, 1) = NONE")
        .run("line LP200P200T02500", "meet(0, 1) = NONE")
        .broken("boolean wentTogether(", ") < Math.min(", ") <= Math.min(")
        .broken("boolean wentTogether(", ") < Math.min(", ") + 1 < Math.min(")
        .broken("boolean wentTogether(", "lowEnd(first), ", "lowEnd(second), ")
        .broken("boolean wentTogether(", "lowEnd(second))", "lowEnd(first))")
        .broken("boolean wentTogether(", "highEnd(first), ", "highEnd(second), ")
        .broken("boolean wentTogether(", "highEnd(second))", "highEnd(first))")
        .broken("int lowEnd(", "Math.min(line.from[ticket], line.to[ticket])", "line.from[ticket]")
        .broken("int lowEnd(", "Math.min(line.from[ticket], line.to[ticket])", "line.to[ticket]")
        .broken("int highEnd(", "Math.max(line.from[ticket], line.to[ticket])", "line.from[ticket]")
        .broken("int highEnd(", "Math.max(line.from[ticket], line.to[ticket])", "line.to[ticket]")
        .broken("boolean wentTogether(", "return false", "return true");
  }

  private static Edge oneSeat() {
    return new Edge("Terms", "ONE SEAT: TOGETHER, and their TICKETS have one SEAT.")
        .run("line LP200P400T02500T04901", "twoSeats() = 0")
        .run("line LP200P400T02590T04991", "twoSeats() = 0")
        .run("line LP200P400T02590T04981", "twoSeats() = NONE")
        .run("line LP200P500T02530T05931", "twoSeats() = NONE")
        .run("line LP200P400T02530T14931", "twoSeats() = NONE")
        // One PERSON that goes by one of its two TICKETS of one SEAT is not two.
        .run("line LP200P400T02530T02530", "twoSeats() = NONE")
        .broken("int barredByPair(", "line.seat[first] == line.seat[second] ? ALL_SEATS : 0", "ALL_SEATS")
        .broken("int barredByPair(", "line.seat[first] == line.seat[second] ? ALL_SEATS : 0", "0")
        .broken("int barredSeats(", "if (wentTogether(one, other))", "if (rides[one] >= 0 && rides[other] >= 0)")
        .broken("int barredSeats(", "int other = one + 1", "int other = one");
  }

  private static Edge meetFrom() {
    return new Edge("Terms", "MEET: the first DAY from now on at which two are TOGETHER; NONE.")
        .run("line LP000P000T00500T00501T95000T95001", "meet(0, 1) = 0", "day() = 3", "meet(0, 1) = 9", Edges.times(8, "day() = 0"),
            "meet(0, 1) = 9", "day() = 3", "meet(0, 1) = NONE")
        .run("line LP000P000T00500", "meet(0, 1) = NONE")
        .broken("int firstMeeting(", "passing < DAYS", "passing < DAYS - 1")
        .broken("int firstMeeting(", "passing = moment.day", "passing = 0")
        .broken("int firstMeeting(", "return passing", "return moment.day")
        .broken("int meet(", "trial.start(now)", "trial.moment.begin()")
        .broken("int firstMeeting(", "return NONE", "return DAYS");
  }

  private static Edge doubleFrom() {
    return new Edge("Terms", "DOUBLE: the first DAY from now on at which any two have ONE SEAT; NONE.")
        .run("line LP000P000T00530T00531T95040T95041", "twoSeats() = 0", "day() = 3", "twoSeats() = 9", Edges.times(8, "day() = 0"),
            "twoSeats() = 9", "day() = 3", "twoSeats() = NONE")
        .run("line LP000P000P000P300P300T03753T03754", "twoSeats() = 0")
        .run("line LP300P000P000P000P300T03750T03754", "twoSeats() = 0")
        .run("line LP300P300P000P000P000T03750T03751", "twoSeats() = 0")
        .run("line LP000P000P500P500T00100T00101T05602T05603", "twoSeats() = 0")
        .run("line LP000P000P000T00100T00101T00102", "twoSeats() = 0")
        .run("line LP000P000P000T00100T00101T00112", "twoSeats() = 0")
        .run("line LP000P000T00530T00541", "twoSeats() = NONE")
        .broken("int firstDouble(", "passing < DAYS", "passing < DAYS - 1")
        .broken("int firstDouble(", "passing = moment.day", "passing = 0")
        .broken("int firstDouble(", "return passing", "return moment.day")
        .broken("int twoSeats(", "trial.start(now)", "trial.moment.begin()")
        .broken("int firstDouble(", "return NONE", "return DAYS")
        .broken("int barredSeats(", "barred |=", "barred ^=")
        .broken("int barredSeats(", "barred |=", "barred =")
        .broken("int barredSeats(", "int one = 0", "int one = 1")
        .broken("int barredSeats(", "int other = one + 1", "int other = one + 2")
        .broken("int barredSeats(", "other < line.people", "other < line.people - 1");
  }

  private static Edge fewestGiven() {
    return new Edge("Terms", "GIVE for two PEOPLE: the fewest TICKETS (0 to 2) to be GIVEN now, one behind the other, so that they MEET:"
        + " how many")
        .run("line LP000P000T00200T00211", "fewest(0, 1, false) = 0", "fewest(1, 0, false) = 0")
        .run("line LP000P000P000T59802T00202T00210", "fewest(0, 1, false) = 1", "fewest(1, 0, false) = 1")
        .run("line LP000P000P000T59802T00202T00212", "fewest(0, 1, false) = 2", "lose(2) = 2", "fewest(0, 1, false) = NONE")
        // The first one must get rid of its ways: of two it can, of three it can't.
        .run("line LP000P200P500T00900T00910T10200T12011", "fewest(0, 1, false) = 2")
        .run("line LP000P200P500T00900T00910T00920T10200T12011", "fewest(0, 1, false) = NONE")
        // Nobody but the other one could have it, and there it stands in the way as well.
        .run("line LP000P000T00900T10200T10211", "fewest(0, 1, false) = NONE", "fewest(0, 1, true) = NONE")
        .run("line LP000P000T00900T10200T10210", "fewest(0, 1, false) = NONE", "fewest(0, 1, true) = NONE")
        // Now: what went by doesn't count, what comes on the last DAY does.
        .run("line LP000P000T00200T00211", "day() = 3", "fewest(0, 1, false) = NONE")
        .run("line LP000P000T90200T90210", "fewest(0, 1, false) = 1", Edges.times(9, "day() = 0"), "fewest(0, 1, false) = 1", "day() = 1",
            "fewest(0, 1, false) = NONE")
        .broken("int fewest(", "if (trial.firstMeeting(one, other) != NONE)", "if (one == other)")
        .broken("int fewest(", "int single = firstGift(one, other, NONE, NONE)", "int single = NONE")
        .broken("int fewest(", "int pair = firstTwoGifts(one, other)", "int pair = NONE")
        .broken("int fewest(", "row ? single : 1", "row ? 1 : single")
        .broken("int fewest(", "row ? pair : 2", "row ? 2 : pair")
        .broken("int firstGift(", "if (behindAnother)", "if (one == other)")
        .broken("int firstGift(", "person < told.people", "person <= told.people")
        .broken("int firstTwoGifts(", "person < told.people", "person <= told.people");
  }

  private static Edge firstRow() {
    return new Edge("Terms", "the first such row (as two figures each: TICKET, PERSON; 0: none); NONE.")
        .run("line LP000P000T00200T00211", "fewest(0, 1, true) = 0", "fewest(0, 1, false) = 0")
        // The row 00: TICKET 0 to PERSON 0.
        .run("line LP000P000P000T00201T00201", "fewest(0, 1, true) = 0", "fewest(0, 1, false) = 1")
        .run("line LP000P000P000T59802T00202T00210", "fewest(0, 1, true) = 11")
        .run("line LP000P000P000T00202T00212T00222", "fewest(0, 1, true) = 11", "fewest(0, 1, false) = 2", "fewest(1, 0, true) = 11",
            "fewest(0, 2, true) = 0")
        .run("line LP000P000P000T59802T00202T00212", "fewest(0, 1, true) = 1021", "fewest(1, 0, true) = 1021")
        .run("line LP000P000P000P000P000T59800T59800T59800T59800T00200T00210", "fewest(3, 4, true) = 4354", "fewest(3, 4, false) = 2")
        // Numbers of TICKETS and of PEOPLE are not mixed up: 0 holds TICKET 0, and others may be GIVEN to it.
        .run("line LP000P000T59800T00201T00211", "fewest(0, 1, true) = 10", "fewest(0, 1, false) = 1")
        .run("line LP000P000P000T59800T00202T00212", "fewest(0, 1, true) = 1021", "fewest(0, 1, false) = 2")
        // The first one of the row is for the last PERSON.
        .run("line LP000P900P500T05301T00411", "fewest(0, 2, true) = 210", "fewest(0, 2, false) = 2")
        .run("line LP000P000", "fewest(0, 1, true) = NONE", "fewest(0, 1, false) = NONE")
        .run("line LP000P003P000T00200T00210", "fewest(0, 1, true) = NONE")
        .broken("int firstGift(", "10 * ticket + person", "10 * person + ticket")
        .broken("int firstTwoGifts(", "1000 * ticket + 100 * person", "100 * ticket + 1000 * person")
        .broken("int firstGift(", "earlierTicket + 1 : 0", "earlierTicket + 2 : 0")
        .broken("int firstGift(", "ticket < told.tickets", "ticket < told.tickets - 1")
        .broken("int firstGift(", "person < told.people", "person < told.people - 1")
        .broken("int firstGift(", "canBeGiven(ticket, person)", "canBeGiven(person, person)")
        .broken("int firstTwoGifts(", "canBeGiven(ticket, person)", "canBeGiven(person, person)")
        .broken("int firstTwoGifts(", "person < told.people", "person < told.people - 1")
        .broken("int firstTwoGifts(", "int ticket = 0", "int ticket = 1")
        .broken("int firstTwoGifts(", "int person = 0", "int person = 1");
  }

  private static Edge gladAtTheEnd() {
    return new Edge("Terms", "GLAD: how many are at the STOP where they would like to be, at the end of all DAYS.")
        .run("line LP010T90100", "glad() = 1", "count(5) = 0")
        .run("line LP000T90100", "glad() = 0", "count(5) = 1")
        .run("line LP000P110P220P330P440", "glad() = 5")
        .run("line LP010P120P230P340P450", "glad() = 0")
        .run("line LP010P120P230P340P440", "glad() = 1")
        .run("line LP000T00100T91000", "glad() = 1", Edges.times(10, "day()"), "glad() = 1", "count(5) = 1")
        .broken("int gladAtEnd(", "passDaysTo(DAYS)", "passDaysTo(DAYS - 1)")
        .broken("int gladNow(", "person < line.people", "person < line.people - 1")
        .broken("int gladNow(", "at[person] == line.liked[person]", "at[person] == line.home[person]");
  }

  private static Edge fallsOfJourneys() {
    return new Edge("Terms", "FALLS: how many more journeys (a PERSON that goes on a DAY) there are from now on, if a TICKET is not LOST now,"
        + " than if it is (0 for one that is gone; may be less than 0).")
        .run("line LP000T00100", "falls(0) = 101", "lose(0) = 0", "falls(0) = 100")
        .run("line LP000T00100", "day() = 1", "falls(0) = 100")
        .run("line LP000T90100", "falls(0) = 101", Edges.times(9, "day()"), "falls(0) = 101", "day() = 1", "falls(0) = 100")
        .run("line LP000T00100T10200T22300", "falls(0) = 99")
        .run("line LP000T00100T10200T22000T30200T42000T50200", "falls(0) = 96", "falls(1) = 100")
        .run("line LP002P002P002P002T00100", "falls(0) = 104")
        .run("line LP000T00100T11200T22300", "falls(0) = 103", "falls(1) = 102", "falls(2) = 101")
        // What was gone ahead of it is gone either way.
        .run("line LP000T00100T10200", "lose(0) = 0", "falls(1) = 101")
        .broken("int falls(", "trial.moment.gone |= 1 << ticket", "trial.moment.gone = 1 << ticket")
        .broken("int falls(", "trial.moment.gone |= 1 << ticket", "trial.moment.gone ^= 1 << ticket")
        .broken("int falls(", "with - trial.journeysToEnd()", "Math.max(with - trial.journeysToEnd(), 0)")
        .broken("int journeysToEnd(", "passing < DAYS", "passing < DAYS - 1")
        .broken("int journeysToEnd(", "Integer.bitCount(moment.passDay(rides))", "moment.passDay(rides)");
  }

  private static Edge changeOfMost() {
    return new Edge("Terms", "BEST CHANGE: the two TICKETS (as two figures, the lesser first) that, CHANGED now, make most GLAD; of like"
        + " ones the least; NONE: by none there are more than without.")
        .run("line LP010P020T00200T00101T00101", "bestChange() = 1", "lose(1) = 1", "bestChange() = 2")
        .run("line LP090P010P020T59800T00201T00102", "bestChange() = 12")
        // 01 makes one more GLAD, 02 two more.
        .run("line LP010P020P050T00200T01202T00101", "bestChange() = 2")
        .run("line LP000P020P030P000T59800T59803T59800T59803T00301T00202", "bestChange() = 45")
        .run("line LP010P010T00100T00201", "bestChange() = NONE")
        .run("line LP010P020T00100T00201", "bestChange() = NONE")
        .run("line LP020P000T00100T00200", "bestChange() = NONE")
        .run("line LP010P000T00101", "bestChange() = NONE")
        .run("line LP010P020", "bestChange() = NONE")
        .run("line LP010P020T00200T00101", "bestChange() = 1", "day() = 3", "bestChange() = NONE")
        .broken("int bestChange(", "gladThen > most", "gladThen >= most")
        .broken("int bestChange(", "int most = glad()", "int most = NONE")
        .broken("int bestChange(", "most = gladThen;", "")
        .broken("int bestChange(", "10 * ticket + other", "10 * other + ticket")
        .broken("int bestChange(", "other < told.tickets", "other < told.tickets - 1");
  }

  private static Edge shareOf() {
    return new Edge("Terms", "SHARE of a TICKET: if TICKETS that are not gone come one by one, in each order as likely (the others are"
        + " gone): by how much in the mean more are GLAD when it has come than were: a FRACTION")
        .run("line LP010T00100", "share(0, true) = 1", "share(0, false) = 1")
        .run("line LP000T00100", "share(0, true) = -1", "share(0, false) = 1")
        .run("line LP060T00100T11200T22300T33400T44500T55600", "share(0, true) = 1", "share(0, false) = 6", "share(5, true) = 1",
            "share(5, false) = 6")
        // The last one is enough by itself; with the first one it needs the second one too.
        .run("line LP020T00100T11200T20200", "share(2, true) = 1", "share(2, false) = 2", "share(0, true) = 0", "share(0, false) = 1",
            "share(1, true) = 1", "share(1, false) = 2", "lose(2) = 0", "share(0, true) = 1", "share(0, false) = 2")
        // Six that would each do: the first one to come does it.
        .run("line LP010T00100T00100T00100T00100T00100T00100", "share(0, true) = 1", "share(0, false) = 6", "share(5, true) = 1",
            "share(5, false) = 6")
        .broken("int share(", "factorial(othersCount + 1)", "factorial(othersCount)")
        .broken("int share(", "factorial(size) * factorial(othersCount - size)", "factorial(size)")
        .broken("int share(", "come < TICKET_SETS", "come < TICKET_SETS / 2")
        .broken("int gladWithOnly(", "trial.moment.gone |= ~come;", "")
        .broken("int factorial(", "factor <= n", "factor < n");
  }

  private static Edge shareOfGone() {
    return new Edge("Terms", "0, if it is gone.")
        .run("line LP010T00100T00100", "lose(0) = 0", "share(0, true) = 0", "share(0, false) = 1", "share(1, true) = 1", "day() = 1",
            "share(1, true) = 0", "share(1, false) = 1")
        .broken("int share(", "fraction(0, 1, upper)", "fraction(1, 1, upper)")
        .broken("int share(", "fraction(0, 1, upper)", "0");
  }

  private static Edge blankBehindAll() {
    return new Edge("Terms", "BLANK for a PERSON (not STAYING) and a STOP: a TICKET more (numbered behind all) that it would hold for a DAY,"
        + " from and to STOPS, a SEAT")
        .run("line LP000T00500", "blank(0, 9) = 1590", "blank(0, 4) = 1540")
        .run("line LP000T00100T00100T00100T00100T00100T00100", "blank(0, 9) = 1190")
        .run("line LP000", "blank(0, 9) = 90", "blank(0, 9) = 90")
        // Another one's TICKETS for the same way do not stand in its way.
        .run("line LP000P500T00501", "blank(0, 9) = 90")
        .broken("int addBlank(", "int number = line.tickets", "int number = Math.max(line.tickets - 1, 0)")
        .broken("final int[] from = ", "MOST_TICKETS + 1", "MOST_TICKETS");
  }

  private static Edge blankLeast() {
    return new Edge("Terms", "as told by the least of these four figures, so that it is at that STOP at the end of all DAYS")
        .run("line LP000", "blank(0, 1) = 10", "blank(0, 9) = 90")
        .run("line LP900", "blank(0, 0) = 900", "blank(0, 8) = 980")
        .run("line LP001", "blank(0, 7) = 9070")
        .run("line LP002", "blank(0, 7) = 70")
        .run("line LP000", "day() = 0", "blank(0, 7) = 1070", Edges.times(8, "day()"), "blank(0, 7) = 9070", "day() = 0",
            "blank(0, 7) = NONE")
        .run("line LP000T90500", "blank(0, 7) = 70", "blank(0, 5) = 50", "blank(0, 0) = NONE")
        // Back to where it was idle ahead of its journey.
        .run("line LP000T10500", "blank(0, 0) = 2500")
        // It is there anyway: the least figures by which it stays so, be it by a DAY that went by.
        .run("line LP000", "blank(0, 0) = 100", "day() = 0", "blank(0, 0) = 10", Edges.times(9, "day()"), "blank(0, 0) = 10")
        .run("line LP100", "blank(0, 1) = 10", "day() = 0", "blank(0, 1) = 10")
        .broken("int firstUsedBlank(", "to != idleAt[day]", "to != idleAt[0]")
        .broken("int firstUsedBlank(", "if (to != idleAt[day])", "if (day >= 0)")
        .broken("int blank(", "int day = 0", "int day = now.day")
        .broken("int firstUnusedBlank(", "from == 0 ? 1 : 0", "0")
        .broken("int firstUnusedBlank(", "from == 0 ? 1 : 0", "1")
        .broken("int blank(", "day < DAYS", "day < DAYS - 1")
        .broken("int blank(", "from < STOPS", "from < STOPS - 1")
        .broken("int firstUsedBlank(", "to < STOPS", "to < STOPS - 1")
        .broken("int seatOfUsedBlank(", "passing < DAYS", "passing < DAYS - 1");
  }

  private static Edge blankSeats() {
    return new Edge("Terms", "and nobody has ONE SEAT with another one from now on")
        .run("line LP000P000P000P000P000T00101T00112T00123T00134", "blank(0, 1) = 14")
        .run("line LP000P000P000P000P000T00100T00111T00122T00133", "blank(4, 1) = 14")
        // There beside four SEATS, back beside two more.
        .run("line LP001P000P000P000P000T00101T00112T00123T00134T11041T11052", "blank(0, 0) = 16")
        .run("line LP000P000P900T00401T09512", "blank(0, 3) = 31", "blank(0, 8) = 82")
        // There and back beside the same SEAT.
        .run("line LP001P000T00101T11001", "blank(0, 0) = 11")
        // Only a STOP is shared: any SEAT.
        .run("line LP000P400T04901", "blank(0, 4) = 40", "blank(0, 5) = 51")
        // Two others have ONE SEAT: none will do. What was, was.
        .run("line LP000P000P900T00400T00401", "blank(2, 5) = NONE", "day() = 3", "blank(2, 5) = 1950")
        .run("line LP000P000P900T90400T90401", "blank(2, 5) = NONE", "blank(2, 9) = NONE", Edges.times(9, "day()"), "blank(2, 5) = NONE", "day() = 3",
            "blank(2, 5) = NONE", "blank(2, 9) = 10")
        .run("line LP000P000P900T00400T00401T14000T14001", "blank(2, 9) = NONE", "blank(2, 5) = NONE")
        // The READER's blank one goes on to 1, who goes by it on DAY 3, beside 2 on SEAT 0.
        .run("line LP002P000P000T30502", "blank(0, 4) = 41")
        .broken("int barredByPair(", "return 1 << line.seat[second]", "return 0")
        .broken("int barredByPair(", "return 1 << line.seat[first]", "return 0")
        .broken("int seatOfUsedBlank(", "trial.start(now)", "trial.moment.begin()")
        .broken("int seatOfUsedBlank(", "barred |= trial", "barred = trial")
        .broken("int seatOfUsedBlank(", "barred |= trial", "barred ^= trial")
        .broken("int seatOfUnusedBlank(", "barred |= trial", "barred ^= trial")
        .broken("int seatOfUnusedBlank(", "if (day >= now.day)", "if (day >= now.day && day < DAYS - 1)")
        .broken("boolean wentTogether(", ") < Math.min(", ") <= Math.min(");
  }

  private static Edge noBlank() {
    return new Edge("Terms", "NONE: there is none such.")
        .run("line LP000", Edges.times(10, "day()"), "blank(0, 1) = NONE", "blank(0, 9) = NONE")
        .run("line LP000P000P000T00400T00401", "blank(2, 9) = NONE", "blank(2, 0) = NONE")
        .run("line LP000T90500", "blank(0, 0) = NONE")
        .broken("int seatOfUsedBlank(", "trial.moment.at[person] == stop ?", "trial.moment.at[person] >= 0 ?")
        .broken("int seatOfUnusedBlank(", "trial.moment.at[person] == stop ?", "trial.moment.at[person] >= 0 ?")
        .broken("int seatOfUnusedBlank(", "barred |= trial.barredSeats(NONE);", "");
  }

  private static Edge where() {
    return new Edge("Promise 13", "WHERE. UNKNOWN; OUTSIDE: day (0 to 10); STATE: it is ahead of THE DAY.")
        .run("line LP120P340", "where(1, 0) = 3", "where(2, 0) = UNKNOWN", "where(-1, 0) = UNKNOWN", "where(MIN, 0) = UNKNOWN",
            "where(MAX, 0) = UNKNOWN", "where(0, 10) = 1", "where(0, 11) = OUTSIDE", "where(0, -1) = OUTSIDE", "where(0, MIN) = OUTSIDE",
            "where(0, MAX) = OUTSIDE", "day() = 0", "where(0, 0) = STATE", "where(0, 1) = 1", "where(0, 11) = OUTSIDE",
            Edges.times(9, "day()"), "where(0, 9) = STATE", "where(0, 0) = STATE", "where(0, 10) = 1", "where(0, 11) = OUTSIDE",
            "undo() = 9", "where(0, 9) = 1", "where(0, 8) = STATE")
        .run("where(0, 0) = UNKNOWN")
        .broken("int where(", "!told.hasPerson(person)", "person < 0 || person >= MOST_PEOPLE")
        .broken("int where(", "day > DAYS", "day > DAYS + 1")
        .broken("int where(", "day < 0 ||", "day < -1 ||")
        .broken("int where(", "day < now.day", "day < now.day - 1")
        .broken("int where(", "return STATE", "return OUTSIDE");
  }

  private static Edge meet() {
    return new Edge("Promise 14", "MEET; NONE. UNKNOWN: both; OUTSIDE: both are one.")
        .run("line LP000P000P000P000P000T00104T00103", "meet(3, 4) = 0", "meet(4, 3) = 0", "meet(0, 4) = NONE", "meet(0, 0) = OUTSIDE",
            "meet(4, 4) = OUTSIDE", "meet(0, 5) = UNKNOWN", "meet(5, 0) = UNKNOWN", "meet(5, 5) = UNKNOWN", "meet(-1, 0) = UNKNOWN",
            "meet(0, -1) = UNKNOWN", "meet(MIN, 0) = UNKNOWN", "meet(0, MAX) = UNKNOWN", "meet(MIN, MIN) = UNKNOWN")
        .broken("int pairRefusal(", "!told.hasPerson(one) ||", "one < 0 ||")
        .broken("int pairRefusal(", "|| !told.hasPerson(other)", "|| other < 0")
        .broken("int pairRefusal(", "one == other ? OUTSIDE : TAKEN", "TAKEN");
  }

  private static Edge twoSeats() {
    return new Edge("Promise 15", "DOUBLE; NONE.")
        .run("twoSeats() = NONE", "line LP000", "twoSeats() = NONE", "line LP000P000T00100T00101", "twoSeats() = 0")
        .run("line LP000P000T90100T90101", "twoSeats() = 9", Edges.times(10, "day()"), "twoSeats() = NONE")
        .broken("int firstDouble(", "passing < DAYS", "passing < DAYS - 1")
        .broken("int firstDouble(", "return NONE", "return 0");
  }

  private static Edge fewest() {
    return new Edge("Promise 16", "GIVE: how many (row = false), the row (row = true); NONE.")
        .run("line LP000P000P000T00202T00212T00222", "fewest(0, 1, false) = 2", "fewest(0, 1, true) = 11", "give(0, 0) = 2",
            "fewest(0, 1, false) = 1", "fewest(0, 1, true) = 11", "give(1, 1) = 2", "fewest(0, 1, false) = 0", "fewest(0, 1, true) = 0",
            Edges.times(10, "day()"), "fewest(0, 1, false) = NONE", "fewest(0, 1, true) = NONE")
        .broken("int fewest(", "row ? single : 1", "1")
        .broken("int fewest(", "row ? pair : 2", "pair")
        .broken("int fewest(", "return NONE", "return 0");
  }

  private static Edge fewestRefused() {
    return new Edge("Promise 16", "UNKNOWN: both; OUTSIDE: both are one.")
        .run("line LP000P000T00100T00111", "fewest(0, 2, true) = UNKNOWN", "fewest(0, 2, false) = UNKNOWN", "fewest(2, 0, true) = UNKNOWN",
            "fewest(2, 2, true) = UNKNOWN", "fewest(-1, 0, true) = UNKNOWN", "fewest(0, -1, false) = UNKNOWN", "fewest(MIN, 0, true) = UNKNOWN",
            "fewest(0, MAX, true) = UNKNOWN", "fewest(0, 0, true) = OUTSIDE", "fewest(1, 1, false) = OUTSIDE", "fewest(0, 1, true) = 0")
        .broken("int fewest(", "return refusal", "return row ? refusal : NONE")
        .broken("int fewest(", "if (refusal != TAKEN)", "if (refusal == UNKNOWN)");
  }

  private static Edge glad() {
    return new Edge("Promise 17", "GLAD.")
        .run("glad() = 0", "line L", "glad() = 0", "line LP000P110P223P331P442", "glad() = 5", Edges.times(10, "day()"), "glad() = 5")
        .run("line LP010T90100", Edges.times(9, "day()"), "glad() = 1", "lose(0) = 0", "glad() = 0", "undo() = 9", "day() = 1", "glad() = 1")
        .broken("int glad(", "trial.start(now)", "trial.moment.begin()")
        .broken("int gladNow(", "int person = 0", "int person = 1");
  }

  private static Edge falls() {
    return new Edge("Promise 18", "FALLS, and 100. UNKNOWN.")
        .run("line LP000T00100", "falls(0) = 101", "falls(1) = UNKNOWN", "falls(-1) = UNKNOWN", "falls(MIN) = UNKNOWN", "falls(MAX) = UNKNOWN",
            "falls(6) = UNKNOWN", "falls(32) = UNKNOWN", "lose(0) = 0", "falls(0) = 100", "falls(1) = UNKNOWN")
        .run("falls(0) = UNKNOWN")
        .broken("private static final int TENTHS", "FALLS_SHIFT = 100", "FALLS_SHIFT = 99")
        .broken("int falls(", "return UNKNOWN", "return FALLS_SHIFT")
        .broken("int falls(", "!now.hasTicket(ticket)", "ticket < 0");
  }

  private static Edge bestChange() {
    return new Edge("Promise 19", "BEST CHANGE; NONE.")
        .run("bestChange() = NONE", "line LP000", "bestChange() = NONE", "line LP010P020T00200T00101", "bestChange() = 1", "change(0, 1) = 1",
            "bestChange() = NONE", "undo() = 0", "lose(1) = 1", "bestChange() = NONE")
        .broken("int bestChange(", "int best = NONE", "int best = 0")
        .broken("int gladIfChanged(", "if (!now.canBeChanged(ticket, other))", "if (ticket == other)");
  }

  private static Edge share() {
    return new Edge("Promise 20", "SHARE. UNKNOWN.")
        .run("line LP010T00100", "share(0, true) = 1", "share(1, true) = UNKNOWN", "share(1, false) = UNKNOWN", "share(-1, true) = UNKNOWN",
            "share(MIN, true) = UNKNOWN", "share(MAX, false) = UNKNOWN", "share(32, false) = UNKNOWN", "lose(0) = 0", "share(0, true) = 0",
            "share(0, false) = 1", "share(1, true) = UNKNOWN")
        .run("share(0, true) = UNKNOWN")
        .broken("int share(", "!now.hasTicket(ticket)", "ticket < 0")
        .broken("int share(", "return UNKNOWN", "return OUTSIDE");
  }

  private static Edge blank() {
    return new Edge("Promise 21", "BLANK, as four figures; NONE.")
        .run("line LP090T00100", "blank(0, 9) = 1190", "blank(0, 0) = 1100", Edges.times(9, "day()"), "blank(0, 9) = 9190", "day() = 0",
            "blank(0, 9) = NONE")
        .run("line LP900", "blank(0, 8) = 980", Edges.times(9, "day()"), "blank(0, 8) = 9980")
        .broken("int blank(", "1000 * day", "999 * day")
        .broken("int blank(", "100 * from", "99 * from")
        .broken("int firstUsedBlank(", "10 * to", "9 * to")
        .broken("int blank(", "return NONE", "return 0");
  }

  private static Edge blankRefused() {
    return new Edge("Promise 21", "UNKNOWN; OUTSIDE: stop; STATE: the PERSON is STAYING.")
        .run("line LP000P003", "blank(2, 0) = UNKNOWN", "blank(-1, 0) = UNKNOWN", "blank(MIN, 0) = UNKNOWN", "blank(MAX, 0) = UNKNOWN",
            "blank(0, 10) = OUTSIDE", "blank(0, -1) = OUTSIDE", "blank(0, MIN) = OUTSIDE", "blank(0, MAX) = OUTSIDE", "blank(1, 10) = OUTSIDE",
            "blank(1, 0) = STATE", "blank(1, 9) = STATE", "blank(0, 9) = 90")
        .run("blank(0, 0) = UNKNOWN")
        .broken("int blank(", "!told.hasPerson(person)", "person < 0 || person >= MOST_PEOPLE")
        .broken("int blank(", "!isStop(stop)", "stop < 0")
        .broken("int blank(", "!isStop(stop)", "stop >= STOPS")
        .broken("int blank(", "told.kind[person] == STAYING", "told.kind[person] > STAYING");
  }
}
