/** Promises 28 to 30: what is kept and gone on from, and what is counted. */
public final class SlotsTest {
  private static final Check CHECK = new Check("SlotsTest");

  public static void main(String[] args) {
    refused();
    keepAndAgain();
    keptOverAndOver();
    keptOfAllKinds();
    count();
    CHECK.end();
  }

  private static void refused() {
    PunchedTicket x = Check.lineOf("LP000");
    CHECK.due("keep(2)", x.keep(2), PunchedTicket.UNKNOWN);
    CHECK.due("keep(-1)", x.keep(-1), PunchedTicket.UNKNOWN);
    CHECK.due("again(2)", x.again(2), PunchedTicket.UNKNOWN);
    CHECK.due("again(-1)", x.again(-1), PunchedTicket.UNKNOWN);
    CHECK.due("again(0)", x.again(0), PunchedTicket.STATE);
    CHECK.due("keep(1)", x.keep(1), 0);
    CHECK.due("again(0) still", x.again(0), PunchedTicket.STATE);
    CHECK.due("again(1)", x.again(1), 0);
  }

  private static void keepAndAgain() {
    PunchedTicket x = Check.lineOf("LP010P020T00100T00201T51900");
    x.day();
    CHECK.due("keep(0)", x.keep(0), 1);
    CHECK.due("keeping is no ACT", x.count(6), 1);
    x.lose(2);
    x.day();
    CHECK.due("keep(1)", x.keep(1), 2);
    x.day();
    CHECK.due("refused, it changes nothing", x.again(2), PunchedTicket.UNKNOWN);
    CHECK.due("ACTS", x.count(6), 4);
    CHECK.due("again(0)", x.again(0), 1);
    CHECK.due("THE DAY", x.count(3), 1);
    CHECK.due("gone", x.count(4), 3);
    CHECK.due("THE ROW is empty", x.count(6), 0);
    CHECK.due("undo()", x.undo(), PunchedTicket.STATE);
    CHECK.due("where(0, 10)", x.where(0, 10), 9);
    CHECK.due("again(1)", x.again(1), 2);
    CHECK.due("gone", x.count(4), 7);
    CHECK.due("where(0, 10) without it", x.where(0, 10), 1);
  }

  private static void keptOverAndOver() {
    PunchedTicket x = Check.lineOf("LP010P000T00100");
    x.keep(0);
    x.give(0, 1);
    CHECK.due("again(0)", x.again(0), 0);
    CHECK.due("whose it is", x.ticket(0, 4), 0);
    x.give(0, 1);
    x.day();
    CHECK.due("again(0) once more", x.again(0), 0);
    CHECK.due("whose it is", x.ticket(0, 4), 0);
    CHECK.due("where it is", x.person(1, 0), 0);
    x.day();
    CHECK.due("keep(0) anew", x.keep(0), 1);
    x.day();
    CHECK.due("again(0) of the new one", x.again(0), 1);
    CHECK.due("where it is", x.person(0, 0), 1);
    CHECK.due("acts go on from there", x.day(), 0);
    CHECK.due("undo()", x.undo(), 0);
    CHECK.due("THE DAY", x.count(3), 1);
  }

  private static void keptOfAllKinds() {
    PunchedTicket x = Check.lineOf("LP011P022T00130T00241");
    x.day();
    x.keep(1);
    Check.days(x, 9);
    x.see(0, 0, 0);
    x.seed(9);
    CHECK.due("again(1)", x.again(1), 1);
    int[] child = {1, 1, 0, 3, 0, 1, 0};
    int[] reader = {3, 0, 2, 4, 0, 0, 0};
    for (int what = 0; what <= 6; what++) {
      CHECK.due("ticket(0, " + what + ")", x.ticket(0, what), child[what]);
      CHECK.due("ticket(1, " + what + ")", x.ticket(1, what), reader[what]);
    }
    CHECK.due("where the CHILD is", x.person(0, 0), 1);
    CHECK.due("SEEN stays", x.count(7), 1);
    CHECK.due("THE SEED stays", x.seed(0), 9);
    Check.write(x, "LP000");
    x.wipe();
    x.line();
    CHECK.due("kept still, when no LINE was made", x.again(1), 1);
    Check.write(x, "LP000");
    x.line();
    CHECK.due("gone with THE LINE", x.again(1), PunchedTicket.STATE);
  }

  private static void count() {
    PunchedTicket x = Check.lineOf("LP120P440P333T01200T14500T04501");
    int[] first = {31, 3, 3, 0, 0, 2, 0, 0};
    for (int what = 0; what <= 7; what++) {
      CHECK.due("count(" + what + ")", x.count(what), first[what]);
    }
    x.day();
    x.lose(1);
    x.see(0, 0, 0);
    x.write('P');
    int[] then = {32, 3, 3, 1, 7, 2, 2, 1};
    for (int what = 0; what <= 7; what++) {
      CHECK.due("count(" + what + ") then", x.count(what), then[what]);
    }
    CHECK.due("count(8)", x.count(8), PunchedTicket.OUTSIDE);
    CHECK.due("count(-1)", x.count(-1), PunchedTicket.OUTSIDE);
  }
}
