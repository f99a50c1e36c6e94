/** Promises 8 to 12: days, tickets given, lost, changed, and all that undone. */
public final class ActsTest {
  private static final Check CHECK = new Check("ActsTest");

  public static void main(String[] args) {
    plainDay();
    leastTicket();
    childDay();
    childBehindTheLastDay();
    readerDay();
    readerBehindTheLastDay();
    readerWithReturn();
    returnsOfOthers();
    stayingDay();
    tenDays();
    give();
    lose();
    change();
    undo();
    undoOfDays();
    longRow();
    CHECK.end();
  }

  private static void ticketIs(PunchedTicket x, String when, int ticket, int... want) {
    for (int what = 0; what < want.length; what++) {
      CHECK.due(when + ": ticket(" + ticket + ", " + what + ")", x.ticket(ticket, what), want[what]);
    }
  }

  private static void plainDay() {
    PunchedTicket x = Check.lineOf("LP120P320P500T01230T03931T15602");
    CHECK.due("day(), two went at once", x.day(), 3);
    CHECK.due("where the first went", x.person(0, 0), 2);
    CHECK.due("where the second went", x.person(1, 0), 9);
    CHECK.due("the third is at home", x.person(2, 0), 5);
    ticketIs(x, "a PLAIN one's is gone as it was", 0, 0, 1, 2, 3, 0, 0, 1);
    ticketIs(x, "one for another DAY is as it was", 2, 1, 5, 6, 0, 2, 0, 0);
    CHECK.due("THE DAY", x.count(3), 1);
    CHECK.due("ACTS", x.count(6), 1);
    CHECK.due("day()", x.day(), 4);
    CHECK.due("day() of nobody", x.day(), 0);
    CHECK.due("gone", x.count(4), 7);
  }

  private static void leastTicket() {
    PunchedTicket x = Check.lineOf("LP100T02300T01400T01500T14600");
    CHECK.due("day()", x.day(), 1);
    CHECK.due("it went by the least one from there", x.person(0, 0), 4);
    CHECK.due("only that one is gone", x.count(4), 2);
    CHECK.due("by the one from where it is now", x.day(), 1);
    CHECK.due("where it is", x.person(0, 0), 6);
    CHECK.due("those for a DAY that went by are not gone", x.count(4), 10);
    CHECK.due("they are held still", x.person(0, 3), 5);
  }

  private static void childDay() {
    PunchedTicket x = Check.lineOf("LP121T21740");
    Check.days(x, 2);
    CHECK.due("day() there", x.day(), 1);
    CHECK.due("there", x.person(0, 0), 7);
    ticketIs(x, "a return", 0, 3, 7, 1, 4, 0, 1, 0);
    CHECK.due("it goes by it", x.person(0, 4), 0);
    CHECK.due("day() back", x.day(), 1);
    CHECK.due("back", x.person(0, 0), 1);
    ticketIs(x, "a return that was used", 0, 3, 7, 1, 4, 0, 1, 1);
    CHECK.due("day() behind", x.day(), 0);
  }

  private static void childBehindTheLastDay() {
    PunchedTicket x = Check.lineOf("LP121P121T81740T91751");
    Check.days(x, 8);
    CHECK.due("day() on 8", x.day(), 1);
    ticketIs(x, "a return on the last DAY", 0, 9, 7, 1, 4, 0, 1, 0);
    CHECK.due("day() on 9", x.day(), 3);
    ticketIs(x, "no return behind the last DAY", 1, 9, 1, 7, 5, 1, 0, 1);
    CHECK.due("it stays there", x.person(1, 0), 7);
  }

  private static void readerDay() {
    PunchedTicket x = Check.lineOf("LP122P132P142T01230T01932");
    CHECK.due("day()", x.day(), 5);
    ticketIs(x, "the next one's", 0, 3, 1, 2, 3, 1, 0, 0);
    ticketIs(x, "behind the last one it is 0's", 1, 3, 1, 9, 3, 0, 0, 0);
    CHECK.due("where 0 is", x.person(0, 0), 2);
    CHECK.due("where 2 is", x.person(2, 0), 9);
    Check.days(x, 2);
    CHECK.due("day() on 3", x.day(), 2);
    ticketIs(x, "handed on once more", 0, 6, 1, 2, 3, 2, 0, 0);
    PunchedTicket alone = Check.lineOf("LP122T01230");
    CHECK.due("day() alone", alone.day(), 1);
    ticketIs(alone, "the only one leaves it to itself", 0, 3, 1, 2, 3, 0, 0, 0);
  }

  private static void readerBehindTheLastDay() {
    PunchedTicket x = Check.lineOf("LP122P122P000T61230T71251");
    Check.days(x, 6);
    CHECK.due("day() on 6", x.day(), 1);
    ticketIs(x, "for the last DAY", 0, 9, 1, 2, 3, 1, 0, 0);
    CHECK.due("day() on 7", x.day(), 2);
    ticketIs(x, "gone as it was", 1, 7, 1, 2, 5, 1, 0, 1);
  }

  private static void readerWithReturn() {
    PunchedTicket x = Check.lineOf("LP121P252T01230");
    x.day();
    x.give(0, 1);
    ticketIs(x, "a return that was given", 0, 1, 2, 1, 3, 1, 1, 0);
    CHECK.due("day()", x.day(), 2);
    CHECK.due("a READER went by the return", x.person(1, 0), 1);
    ticketIs(x, "it is as it was told", 0, 4, 1, 2, 3, 0, 0, 0);
    PunchedTicket late = Check.lineOf("LP121P252T61230");
    Check.days(late, 7);
    late.give(0, 1);
    CHECK.due("day() on 7", late.day(), 2);
    ticketIs(late, "gone as it was when it was used", 0, 7, 2, 1, 3, 1, 1, 1);
  }

  private static void returnsOfOthers() {
    PunchedTicket x = Check.lineOf("LP121P251P200T01230T05630");
    x.day();
    x.keep(0);
    x.give(0, 1);
    CHECK.due("another CHILD goes by a return", x.day(), 2);
    ticketIs(x, "it is gone", 0, 1, 2, 1, 3, 1, 1, 1);
    x.again(0);
    x.give(0, 2);
    CHECK.due("a PLAIN one goes by a return", x.day(), 4);
    ticketIs(x, "it is gone too", 0, 1, 2, 1, 3, 2, 1, 1);
  }

  private static void stayingDay() {
    PunchedTicket x = Check.lineOf("LP123T01230");
    CHECK.due("day()", x.day(), 0);
    CHECK.due("it stays", x.person(0, 0), 1);
    ticketIs(x, "it has it still", 0, 0, 1, 2, 3, 0, 0, 0);
  }

  private static void tenDays() {
    PunchedTicket x = Check.lineOf("LP120T91200");
    for (int day = 0; day < 9; day++) {
      CHECK.due("day() " + day, x.day(), 0);
    }
    CHECK.due("day() 9", x.day(), 1);
    CHECK.due("no DAY is left", x.day(), PunchedTicket.STATE);
    CHECK.due("THE DAY", x.count(3), 10);
    CHECK.due("ACTS", x.count(6), 10);
    PunchedTicket nobody = new PunchedTicket();
    for (int day = 0; day < 10; day++) {
      CHECK.due("day() of nobody", nobody.day(), 0);
    }
    CHECK.due("no DAY is left of nobody", nobody.day(), PunchedTicket.STATE);
  }

  private static void give() {
    PunchedTicket x = Check.lineOf("LP120P120T01230");
    CHECK.due("give(0, 1)", x.give(0, 1), 0);
    CHECK.due("whose it is", x.ticket(0, 4), 1);
    CHECK.due("give(0, 1) once more", x.give(0, 1), PunchedTicket.STATE);
    CHECK.due("give(1, 0)", x.give(1, 0), PunchedTicket.UNKNOWN);
    CHECK.due("give(-1, 0)", x.give(-1, 0), PunchedTicket.UNKNOWN);
    CHECK.due("give(0, 2)", x.give(0, 2), PunchedTicket.UNKNOWN);
    CHECK.due("give(0, -1)", x.give(0, -1), PunchedTicket.UNKNOWN);
    CHECK.due("refused ones are no ACTS", x.count(6), 1);
    CHECK.due("day()", x.day(), 2);
    CHECK.due("give of one that is gone", x.give(0, 0), PunchedTicket.STATE);
    CHECK.due("give(0, 2) of one that is gone", x.give(0, 2), PunchedTicket.UNKNOWN);
    CHECK.due("ACTS", x.count(6), 2);
  }

  private static void lose() {
    PunchedTicket x = Check.lineOf("LP120P120T01230T01231");
    CHECK.due("lose(1)", x.lose(1), 1);
    ticketIs(x, "lost", 1, 0, 1, 2, 3, 1, 0, 1);
    CHECK.due("gone", x.count(4), 2);
    CHECK.due("lose(1) once more", x.lose(1), PunchedTicket.STATE);
    CHECK.due("lose(2)", x.lose(2), PunchedTicket.UNKNOWN);
    CHECK.due("lose(-1)", x.lose(-1), PunchedTicket.UNKNOWN);
    CHECK.due("ACTS", x.count(6), 1);
    CHECK.due("day()", x.day(), 1);
  }

  private static void change() {
    PunchedTicket x = Check.lineOf("LP120P120T01230T51231T61231");
    CHECK.due("change(0, 1)", x.change(0, 1), 1);
    CHECK.due("who holds 0", x.ticket(0, 4), 1);
    CHECK.due("who holds 1", x.ticket(1, 4), 0);
    CHECK.due("change(1, 2)", x.change(1, 2), 1);
    CHECK.due("who holds 2", x.ticket(2, 4), 0);
    CHECK.due("change of one PERSON's", x.change(0, 1), PunchedTicket.STATE);
    CHECK.due("change with itself", x.change(0, 0), PunchedTicket.STATE);
    CHECK.due("change(3, 0)", x.change(3, 0), PunchedTicket.UNKNOWN);
    CHECK.due("change(0, 3)", x.change(0, 3), PunchedTicket.UNKNOWN);
    CHECK.due("change(-1, 0)", x.change(-1, 0), PunchedTicket.UNKNOWN);
    CHECK.due("change(0, -1)", x.change(0, -1), PunchedTicket.UNKNOWN);
    x.lose(2);
    CHECK.due("change with a lost one", x.change(0, 2), PunchedTicket.STATE);
    CHECK.due("change of a lost one", x.change(2, 0), PunchedTicket.STATE);
    CHECK.due("ACTS", x.count(6), 3);
  }

  private static void undo() {
    PunchedTicket x = Check.lineOf("LP120P120T01230T51231");
    x.give(0, 1);
    x.lose(1);
    x.change(0, 1);
    CHECK.due("ACTS", x.count(6), 2);
    CHECK.due("undo() of lose", x.undo(), 1);
    CHECK.due("not lost", x.ticket(1, 6), 0);
    CHECK.due("still given", x.ticket(0, 4), 1);
    CHECK.due("undo() of give", x.undo(), 0);
    CHECK.due("not given", x.ticket(0, 4), 0);
    CHECK.due("undo() of none", x.undo(), PunchedTicket.STATE);
    x.change(0, 1);
    CHECK.due("undo() of change", x.undo(), 0);
    CHECK.due("who holds 0", x.ticket(0, 4), 0);
    CHECK.due("who holds 1", x.ticket(1, 4), 1);
  }

  private static void undoOfDays() {
    PunchedTicket x = Check.lineOf("LP121P122P000T01230T01251");
    x.day();
    x.day();
    CHECK.due("undo() of a DAY", x.undo(), 1);
    CHECK.due("THE DAY", x.count(3), 1);
    CHECK.due("where the CHILD is", x.person(0, 0), 2);
    ticketIs(x, "its return is not used", 0, 1, 2, 1, 3, 0, 1, 0);
    CHECK.due("undo() of the first DAY", x.undo(), 0);
    CHECK.due("where the CHILD was", x.person(0, 0), 1);
    CHECK.due("where the READER was", x.person(1, 0), 1);
    ticketIs(x, "no return", 0, 0, 1, 2, 3, 0, 0, 0);
    ticketIs(x, "not handed on", 1, 0, 1, 2, 5, 1, 0, 0);
    CHECK.due("day() goes as it went", x.day(), 3);
  }

  private static void longRow() {
    PunchedTicket x = Check.lineOf("LP120P120P120T01230");
    for (int act = 0; act < 33; act++) {
      x.give(0, (act + 1) % 3);
      CHECK.due("ACTS behind " + act, x.count(6), Math.min(act + 1, 14));
    }
    for (int left = 13; left >= 0; left--) {
      CHECK.due("undo()", x.undo(), left);
      CHECK.due("whose it is then", x.ticket(0, 4), (19 + left) % 3);
    }
    CHECK.due("the first ones are forgotten", x.undo(), PunchedTicket.STATE);
    CHECK.due("whose it is", x.ticket(0, 4), 19 % 3);
  }
}
