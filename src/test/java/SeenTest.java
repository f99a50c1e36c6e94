/** Promises 22 to 24: what is seen, and who held a ticket by that. */
public final class SeenTest {
  private static final Check CHECK = new Check("SeenTest");

  public static void main(String[] args) {
    see();
    heldRefused();
    held();
    heldOverDays();
    notLookedAt();
    CHECK.end();
  }

  private static void see() {
    PunchedTicket x = Check.lineOf("LP000P000");
    CHECK.due("see(2, 0, 0)", x.see(2, 0, 0), PunchedTicket.UNKNOWN);
    CHECK.due("see(-1, 0, 0)", x.see(-1, 0, 0), PunchedTicket.UNKNOWN);
    CHECK.due("see(2, 10, 11)", x.see(2, 10, 11), PunchedTicket.UNKNOWN);
    CHECK.due("see(0, 10, 0)", x.see(0, 10, 0), PunchedTicket.OUTSIDE);
    CHECK.due("see(0, -1, 0)", x.see(0, -1, 0), PunchedTicket.OUTSIDE);
    CHECK.due("see(0, 0, 11)", x.see(0, 0, 11), PunchedTicket.OUTSIDE);
    CHECK.due("see(0, 0, -1)", x.see(0, 0, -1), PunchedTicket.OUTSIDE);
    CHECK.due("SEEN", x.count(7), 0);
    for (int n = 1; n <= 6; n++) {
      CHECK.due("see " + n, x.see(n % 2, 9, n == 1 ? 0 : 10), n);
    }
    CHECK.due("a seventh", x.see(0, 0, 0), PunchedTicket.FULL);
    CHECK.due("a seventh outside", x.see(0, 0, 11), PunchedTicket.OUTSIDE);
    CHECK.due("SEEN", x.count(7), 6);
    CHECK.due("it is no ACT", x.count(6), 0);
    CHECK.due("unsee()", x.unsee(), 6);
    CHECK.due("SEEN then", x.count(7), 0);
    CHECK.due("unsee() of nothing", x.unsee(), 0);
    CHECK.due("the first one again", x.see(0, 0, 0), 1);
    x.day();
    CHECK.due("a DAY that went by can be SEEN", x.see(0, 0, 0), 2);
  }

  private static void heldRefused() {
    PunchedTicket x = Check.lineOf("LP000T00100");
    CHECK.due("held(1)", x.held(1), PunchedTicket.UNKNOWN);
    CHECK.due("held(-1)", x.held(-1), PunchedTicket.UNKNOWN);
    x.lose(0);
    CHECK.due("held of a gone one", x.held(0), PunchedTicket.STATE);
  }

  private static void held() {
    PunchedTicket x = Check.lineOf("LP000P000P500P003T00700");
    CHECK.due("nothing SEEN: all", x.held(0), 15);
    x.see(0, 0, 1);
    CHECK.due("0 did not go", x.held(0), 14);
    x.see(1, 7, 5);
    CHECK.due("1 went", x.held(0), 2);
    x.see(2, 5, 10);
    CHECK.due("2 would not have gone anyway", x.held(0), 2);
    x.see(3, 7, 1);
    CHECK.due("one that stays did not go", x.held(0), 0);
    CHECK.due("it is as it was", x.ticket(0, 4), 0);
    x.unsee();
    CHECK.due("all again", x.held(0), 15);
    x.see(1, 7, 0);
    CHECK.due("not at the beginning", x.held(0), 0);
  }

  private static void heldOverDays() {
    // A CHILD comes back, a READER leaves it for the next one.
    PunchedTicket x = Check.lineOf("LP001P002P000T00700");
    x.see(2, 7, 4);
    CHECK.due("2 had it, or had it from the READER", x.held(0), 6);
    x.see(2, 0, 3);
    CHECK.due("2 had it from the READER", x.held(0), 2);
    x.unsee();
    x.see(2, 0, 10);
    x.see(1, 0, 10);
    CHECK.due("the CHILD's", x.held(0), 1);
    x.see(0, 7, 1);
    CHECK.due("it was away between", x.held(0), 1);
    x.see(0, 7, 2);
    CHECK.due("it was not so long away", x.held(0), 0);
  }

  private static void notLookedAt() {
    PunchedTicket x = Check.lineOf("LP000P000P000T30700");
    x.see(2, 9, 0);
    CHECK.due("nobody makes it so", x.held(0), 0);
    x.see(0, 7, 4);
    x.day();
    CHECK.due("DAYS ahead of THE DAY are not looked at", x.held(0), 1);
    x.undo();
    CHECK.due("they are again", x.held(0), 0);
    Check.write(x, "LP000P000T30700");
    x.line();
    CHECK.due("PEOPLE that there are not any more", x.held(0), 1);
    Check.write(x, "LP000P000P000T30700");
    x.line();
    CHECK.due("PEOPLE that there are again", x.held(0), 0);
    x.unsee();
    Check.days(x, 3);
    x.see(1, 5, 3);
    CHECK.due("on THE DAY itself", x.held(0), 0);
    x.unsee();
    x.see(1, 0, 3);
    CHECK.due("so on THE DAY itself", x.held(0), 7);
    PunchedTicket end = Check.lineOf("LP500P600T39700");
    Check.days(end, 10);
    end.see(0, 5, 10);
    CHECK.due("at the end of all DAYS", end.held(0), 3);
    end.see(1, 5, 10);
    CHECK.due("not at the end of all DAYS", end.held(0), 0);
  }
}
