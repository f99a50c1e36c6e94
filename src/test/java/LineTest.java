/** Promises 1 to 7: a new object, and the line. */
public final class LineTest {
  private static final Check CHECK = new Check("LineTest");

  public static void main(String[] args) {
    newObject();
    eachForItself();
    writeAndWipe();
    faultsOfPeople();
    faultsOfTickets();
    faultsOfLength();
    line();
    lineMadeAnew();
    person();
    personGoesBy();
    ticket();
    CHECK.end();
  }

  private static void newObject() {
    isNew(new PunchedTicket());
  }

  private static void isNew(PunchedTicket x) {
    for (int what = 0; what <= 7; what++) {
      CHECK.due("count(" + what + ")", x.count(what), 0);
    }
    CHECK.due("person(0, 0)", x.person(0, 0), PunchedTicket.UNKNOWN);
    CHECK.due("ticket(0, 0)", x.ticket(0, 0), PunchedTicket.UNKNOWN);
    CHECK.due("fault() of nothing", x.fault(), 0);
    CHECK.due("line() of nothing", x.line(), PunchedTicket.STATE);
    CHECK.due("glad() of nobody", x.glad(), 0);
    CHECK.due("seed(0) at first", x.seed(0), 0);
    CHECK.due("again(0) at first", x.again(0), PunchedTicket.STATE);
    CHECK.due("undo() at first", x.undo(), PunchedTicket.STATE);
  }

  /** Whatever is done with one object, a later one is new, and whatever is done with that changes nothing here. */
  private static void eachForItself() {
    PunchedTicket x = Check.lineOf("LP130P240T01300T12401");
    PunchedTicket early = new PunchedTicket();
    x.seed(5);
    x.see(1, 4, 10);
    x.keep(0);
    x.day();
    isNew(early);
    PunchedTicket other = new PunchedTicket();
    isNew(other);
    Check.write(other, "LP990T09800");
    CHECK.due("line() of the other", other.line(), 11);
    other.keep(0);
    other.day();
    other.blank(0, 4);
    other.years(30);
    other.see(0, 5, 1);
    CHECK.due("count(0) beside another", x.count(0), 21);
    CHECK.due("count(1) beside another", x.count(1), 2);
    CHECK.due("count(3) beside another", x.count(3), 1);
    CHECK.due("count(4) beside another", x.count(4), 1);
    CHECK.due("count(6) beside another", x.count(6), 1);
    CHECK.due("count(7) beside another", x.count(7), 1);
    CHECK.due("where(1, 10) beside another", x.where(1, 10), 4);
    CHECK.due("held(1) beside another", x.held(1), 2);
    CHECK.due("ticket(1, 1) beside another", x.ticket(1, 1), 2);
    CHECK.due("undo() beside another", x.undo(), 0);
    CHECK.due("person(0, 0) beside another", x.person(0, 0), 1);
    CHECK.due("again(0) beside another", x.again(0), 0);
    CHECK.due("person(0, 0) as it was kept", x.person(0, 0), 1);
    CHECK.due("line() of its own text", x.line(), 22);
    CHECK.due("person(0, 1) of its own text", x.person(0, 1), 3);
    CHECK.due("seed(0) beside another", x.seed(0), 5);
  }

  private static void writeAndWipe() {
    PunchedTicket x = new PunchedTicket();
    CHECK.due("write(-1)", x.write(-1), PunchedTicket.OUTSIDE);
    CHECK.due("write(256)", x.write(256), PunchedTicket.OUTSIDE);
    for (int i = 1; i <= 64; i++) {
      CHECK.due("write " + i, x.write(i == 1 ? 0 : 255), i);
    }
    CHECK.due("write(0) behind 64", x.write(0), PunchedTicket.FULL);
    CHECK.due("write(256) behind 64", x.write(256), PunchedTicket.OUTSIDE);
    CHECK.due("count(0) of 64", x.count(0), 64);
    CHECK.due("wipe()", x.wipe(), 64);
    CHECK.due("count(0)", x.count(0), 0);
    CHECK.due("wipe() again", x.wipe(), 0);
    CHECK.due("write(76)", x.write('L'), 1);
    CHECK.due("fault()", x.fault(), PunchedTicket.NONE);
    CHECK.due("count(0) behind fault()", x.count(0), 1);
  }

  private static void fault(String text, int want) {
    CHECK.due("fault of " + text, Check.faultOf(text), want);
  }

  private static void faultsOfPeople() {
    fault("", 0);
    fault("P", 0);
    fault("l", 0);
    fault("L", PunchedTicket.NONE);
    fault("LL", 1);
    fault("Lp", 1);
    fault("LP", 2);
    fault("LP1", 3);
    fault("LP12", 4);
    fault("LP123", PunchedTicket.NONE);
    fault("LP993", PunchedTicket.NONE);
    fault("LP/00", 2);
    fault("LP:00", 2);
    fault("LP0/0", 3);
    fault("LP0:0", 3);
    fault("LP00/", 4);
    fault("LP004", 4);
    fault("LPX", 2);
    fault("LP000P000P000P000P000", PunchedTicket.NONE);
    fault("LP000P000P000P000P000P", 21);
    fault("LP000P000P000P000P000L", 21);
  }

  private static void faultsOfTickets() {
    fault("LT", 1);
    fault("LT0100", 1);
    fault("LP000T", 6);
    fault("LP000T9", 7);
    fault("LP000T98", 8);
    fault("LP000T987", 9);
    fault("LP000T9879", 10);
    fault("LP000T98790", PunchedTicket.NONE);
    fault("LP000T988", 8);
    fault("LP000T00", 8);
    fault("LP000T/", 6);
    fault("LP000T0:", 7);
    fault("LP000T01/", 8);
    fault("LP000T012:", 9);
    fault("LP000T0123/", 10);
    fault("LP000T01231", 10);
    fault("LP000T01230P000", PunchedTicket.NONE);
    fault("LP000T01231P000", 10);
    fault("LP000P000T01231", PunchedTicket.NONE);
    fault("LP000P000T01232", 14);
  }

  private static void faultsOfLength() {
    String six = "T01000T01000T01000T01000T01000T01000";
    String full = "LP000P000P000P000P000" + six;
    fault(full, PunchedTicket.NONE);
    fault(full + "T", 57);
    fault(full + "P", 57);
    fault(full + "P000000", 57);
    fault("LP000" + six + "P000", PunchedTicket.NONE);
    fault("LP000" + six + "T", 41);
    fault("LP000" + six + "P0", 43);
    PunchedTicket x = new PunchedTicket();
    Check.write(x, "LP000T01230");
    Check.write(x, "LP000T0");
    CHECK.due("what was wiped does not count", x.fault(), 7);
    Check.write(x, "LP00");
    CHECK.due("nor does it end a PART", x.fault(), 4);
    Check.write(x, "LP000T0123");
    CHECK.due("nor another one", x.line(), PunchedTicket.STATE);
  }

  private static void line() {
    PunchedTicket x = new PunchedTicket();
    Check.write(x, "LP120P343T01230");
    CHECK.due("count(1) ahead of line()", x.count(1), 0);
    CHECK.due("line()", x.line(), 21);
    CHECK.due("count(0) behind line()", x.count(0), 15);
    CHECK.due("count(1)", x.count(1), 2);
    CHECK.due("count(2)", x.count(2), 1);
    x.write('X');
    CHECK.due("line() with a fault", x.line(), PunchedTicket.STATE);
    CHECK.due("count(1) as it was", x.count(1), 2);
    CHECK.due("person(1, 0) as it was", x.person(1, 0), 3);
    Check.write(x, "LP990P");
    CHECK.due("line() not at its end", x.line(), PunchedTicket.STATE);
    CHECK.due("person(0, 0) as it was", x.person(0, 0), 1);
    CHECK.due("fault()", x.fault(), 6);
    CHECK.due("person(0, 0) behind fault()", x.person(0, 0), 1);
    Check.write(x, "L");
    CHECK.due("line() of nobody", x.line(), 0);
    CHECK.due("person(0, 0) of nobody", x.person(0, 0), PunchedTicket.UNKNOWN);
    CHECK.due("ticket(0, 0) of none", x.ticket(0, 0), PunchedTicket.UNKNOWN);
    Check.write(x, "LP000P000P000P000P000T01000T01000T01000T01000T01000T01000");
    CHECK.due("line() of most", x.line(), 56);
  }

  private static void lineMadeAnew() {
    PunchedTicket x = Check.lineOf("LP121P050T01200T15601");
    x.see(1, 5, 0);
    x.seed(7);
    x.keep(0);
    x.keep(1);
    x.day();
    x.lose(1);
    CHECK.due("line() behind acts", x.line(), 22);
    CHECK.due("THE DAY", x.count(3), 0);
    CHECK.due("nothing is gone", x.count(4), 0);
    CHECK.due("no acts", x.count(6), 0);
    CHECK.due("undo()", x.undo(), PunchedTicket.STATE);
    CHECK.due("again(0)", x.again(0), PunchedTicket.STATE);
    CHECK.due("again(1)", x.again(1), PunchedTicket.STATE);
    CHECK.due("SEEN stays", x.count(7), 1);
    CHECK.due("THE SEED stays", x.seed(0), 7);
    CHECK.due("all are at home", x.person(0, 0), 1);
    CHECK.due("no return", x.ticket(0, 5), 0);
    CHECK.due("its DAY is as told", x.ticket(0, 0), 0);
  }

  private static void person() {
    PunchedTicket x = Check.lineOf("LP120P343T01230T53451T34561T57800");
    CHECK.due("person(0, 0)", x.person(0, 0), 1);
    CHECK.due("person(0, 1)", x.person(0, 1), 2);
    CHECK.due("person(0, 2)", x.person(0, 2), 0);
    CHECK.due("person(0, 3)", x.person(0, 3), 9);
    CHECK.due("person(1, 0)", x.person(1, 0), 3);
    CHECK.due("person(1, 1)", x.person(1, 1), 4);
    CHECK.due("person(1, 2)", x.person(1, 2), 3);
    CHECK.due("person(1, 3)", x.person(1, 3), 6);
    CHECK.due("person(2, 0)", x.person(2, 0), PunchedTicket.UNKNOWN);
    CHECK.due("person(-1, 0)", x.person(-1, 0), PunchedTicket.UNKNOWN);
    CHECK.due("person(2, 9)", x.person(2, 9), PunchedTicket.UNKNOWN);
    CHECK.due("person(0, 5)", x.person(0, 5), PunchedTicket.OUTSIDE);
    CHECK.due("person(0, -1)", x.person(0, -1), PunchedTicket.OUTSIDE);
    x.lose(0);
    CHECK.due("person(0, 3) without the lost one", x.person(0, 3), 8);
    x.give(1, 0);
    CHECK.due("person(0, 3) with the given one", x.person(0, 3), 10);
    CHECK.due("person(1, 3) without it", x.person(1, 3), 4);
  }

  private static void personGoesBy() {
    PunchedTicket x = Check.lineOf("LP500P503T15600T06500T05700T05800T05901T95000");
    CHECK.due("by the least one from there", x.person(0, 4), 2);
    CHECK.due("one that stays", x.person(1, 4), PunchedTicket.NONE);
    x.lose(2);
    CHECK.due("by the next one", x.person(0, 4), 3);
    x.give(3, 1);
    CHECK.due("by none", x.person(0, 4), PunchedTicket.NONE);
    CHECK.due("one that stays, with more", x.person(1, 4), PunchedTicket.NONE);
    x.day();
    CHECK.due("on the next DAY", x.person(0, 4), 0);
    Check.days(x, 9);
    CHECK.due("behind the last DAY", x.person(0, 4), PunchedTicket.NONE);
  }

  private static void ticket() {
    PunchedTicket x = Check.lineOf("LP121P343T01230T98761");
    int[] first = {0, 1, 2, 3, 0, 0, 0};
    int[] second = {9, 8, 7, 6, 1, 0, 0};
    for (int what = 0; what <= 6; what++) {
      CHECK.due("ticket(0, " + what + ")", x.ticket(0, what), first[what]);
      CHECK.due("ticket(1, " + what + ")", x.ticket(1, what), second[what]);
    }
    x.day();
    int[] returned = {1, 2, 1, 3, 0, 1, 0};
    for (int what = 0; what <= 6; what++) {
      CHECK.due("a return, ticket(0, " + what + ")", x.ticket(0, what), returned[what]);
    }
    x.day();
    returned[6] = 1;
    for (int what = 0; what <= 6; what++) {
      CHECK.due("gone, ticket(0, " + what + ")", x.ticket(0, what), returned[what]);
    }
    x.lose(1);
    second[6] = 1;
    for (int what = 0; what <= 6; what++) {
      CHECK.due("lost, ticket(1, " + what + ")", x.ticket(1, what), second[what]);
    }
    CHECK.due("ticket(2, 0)", x.ticket(2, 0), PunchedTicket.UNKNOWN);
    CHECK.due("ticket(-1, 0)", x.ticket(-1, 0), PunchedTicket.UNKNOWN);
    CHECK.due("ticket(2, 9)", x.ticket(2, 9), PunchedTicket.UNKNOWN);
    CHECK.due("ticket(0, 7)", x.ticket(0, 7), PunchedTicket.OUTSIDE);
    CHECK.due("ticket(0, -1)", x.ticket(0, -1), PunchedTicket.OUTSIDE);
  }
}
