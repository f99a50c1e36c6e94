/** Promises 13 to 21: who is where when, who meets whom, and what a ticket is good for. */
public final class JourneysTest {
  private static final Check CHECK = new Check("JourneysTest");

  public static void main(String[] args) {
    where();
    meetOverStretches();
    meetOnDays();
    twoSeats();
    fewestRefused();
    fewest();
    glad();
    falls();
    bestChange();
    share();
    shareOfGoneOnes();
    blankRefused();
    blank();
    blankSeats();
    blankThatIsNotUsed();
    blankAgainstDoubles();
    nothingIsChanged();
    CHECK.end();
  }

  private static void where() {
    PunchedTicket x = Check.lineOf("LP120P351T01400T24600T13701T46900");
    int[] first = {1, 4, 4, 6, 6, 9, 9, 9, 9, 9, 9};
    int[] child = {3, 3, 7, 3, 3, 3, 3, 3, 3, 3, 3};
    for (int day = 0; day <= 10; day++) {
      CHECK.due("where(0, " + day + ")", x.where(0, day), first[day]);
      CHECK.due("where(1, " + day + ")", x.where(1, day), child[day]);
    }
    CHECK.due("where(2, 0)", x.where(2, 0), PunchedTicket.UNKNOWN);
    CHECK.due("where(-1, 0)", x.where(-1, 0), PunchedTicket.UNKNOWN);
    CHECK.due("where(2, 11)", x.where(2, 11), PunchedTicket.UNKNOWN);
    CHECK.due("where(0, 11)", x.where(0, 11), PunchedTicket.OUTSIDE);
    CHECK.due("where(0, -1)", x.where(0, -1), PunchedTicket.OUTSIDE);
    Check.days(x, 2);
    CHECK.due("where(0, 1) behind it", x.where(0, 1), PunchedTicket.STATE);
    CHECK.due("where(0, 11) behind it", x.where(0, 11), PunchedTicket.OUTSIDE);
    CHECK.due("where(0, 2) now", x.where(0, 2), 4);
    CHECK.due("where(1, 2) now", x.where(1, 2), 7);
    CHECK.due("where(1, 3)", x.where(1, 3), 3);
    Check.days(x, 8);
    CHECK.due("where(0, 10) now", x.where(0, 10), 9);
    CHECK.due("where(0, 9) behind it", x.where(0, 9), PunchedTicket.STATE);
  }

  private static int meetOf(String first, String second) {
    char one = first.charAt(0), other = second.charAt(0);
    return Check.lineOf("LP" + one + "00P" + other + "00T0" + first + "00T0" + second + "01").meet(0, 1);
  }

  private static void meetOverStretches() {
    CHECK.due("the same way", meetOf("25", "25"), 0);
    CHECK.due("against one another", meetOf("25", "52"), 0);
    CHECK.due("one within the other", meetOf("09", "45"), 0);
    CHECK.due("one within the other, against it", meetOf("09", "54"), 0);
    CHECK.due("over one stretch", meetOf("25", "49"), 0);
    CHECK.due("over one stretch, against", meetOf("25", "94"), 0);
    CHECK.due("both down", meetOf("52", "30"), 0);
    CHECK.due("only a STOP is shared", meetOf("25", "59"), PunchedTicket.NONE);
    CHECK.due("only a STOP is shared, against", meetOf("25", "95"), PunchedTicket.NONE);
    CHECK.due("only the first STOP is shared", meetOf("52", "59"), PunchedTicket.NONE);
    CHECK.due("nothing is shared", meetOf("01", "89"), PunchedTicket.NONE);
  }

  private static void meetOnDays() {
    PunchedTicket x = Check.lineOf("LP000P002P000T10500T40501T45010T10200T19802");
    // The READER 1 goes on 4, when the PLAIN one 0 (there since 1) goes back.
    CHECK.due("meet(0, 1)", x.meet(0, 1), 4);
    CHECK.due("meet(1, 0)", x.meet(1, 0), 4);
    CHECK.due("meet(0, 2)", x.meet(0, 2), PunchedTicket.NONE);
    CHECK.due("meet(0, 0)", x.meet(0, 0), PunchedTicket.OUTSIDE);
    CHECK.due("meet(0, 3)", x.meet(0, 3), PunchedTicket.UNKNOWN);
    CHECK.due("meet(3, 0)", x.meet(3, 0), PunchedTicket.UNKNOWN);
    CHECK.due("meet(3, 3)", x.meet(3, 3), PunchedTicket.UNKNOWN);
    CHECK.due("meet(-1, 0)", x.meet(-1, 0), PunchedTicket.UNKNOWN);
    Check.days(x, 4);
    CHECK.due("meet(0, 1) this DAY", x.meet(0, 1), 4);
    x.day();
    CHECK.due("meet(0, 1) from then on", x.meet(0, 1), PunchedTicket.NONE);
    Check.days(x, 5);
    CHECK.due("meet(0, 1) behind all DAYS", x.meet(0, 1), PunchedTicket.NONE);
    PunchedTicket child = Check.lineOf("LP001P900T00900T19041");
    CHECK.due("by a return", child.meet(0, 1), 1);
  }

  private static void twoSeats() {
    CHECK.due("other SEATS", Check.lineOf("LP000P000T00500T00511").twoSeats(), PunchedTicket.NONE);
    CHECK.due("ONE SEAT", Check.lineOf("LP000P000T00510T00511").twoSeats(), 0);
    CHECK.due("ONE SEAT behind one another", Check.lineOf("LP000P500T00510T05911").twoSeats(), PunchedTicket.NONE);
    CHECK.due("ONE SEAT on other DAYS", Check.lineOf("LP000P000T00510T10511").twoSeats(), PunchedTicket.NONE);
    CHECK.due("one that stays", Check.lineOf("LP000P003T00510T00511").twoSeats(), PunchedTicket.NONE);
    PunchedTicket x = Check.lineOf("LP001P900P000P900T00900T19012T19001T31292T31293");
    CHECK.due("by a return", x.twoSeats(), 1);
    x.day();
    CHECK.due("this DAY", x.twoSeats(), 1);
    x.day();
    CHECK.due("from then on", x.twoSeats(), PunchedTicket.NONE);
    PunchedTicket last = Check.lineOf("LP000P000P300P700T93753T97352");
    CHECK.due("the last two", last.twoSeats(), PunchedTicket.NONE);
    last.change(0, 1);
    CHECK.due("the last two on the last DAY", last.twoSeats(), 9);
    Check.days(last, 10);
    CHECK.due("behind all DAYS", last.twoSeats(), PunchedTicket.NONE);
    CHECK.due("nobody", new PunchedTicket().twoSeats(), PunchedTicket.NONE);
  }

  private static void fewestRefused() {
    PunchedTicket x = Check.lineOf("LP000P000");
    for (int i = 0; i < 2; i++) {
      boolean row = i == 1;
      CHECK.due("fewest(0, 0)", x.fewest(0, 0, row), PunchedTicket.OUTSIDE);
      CHECK.due("fewest(0, 2)", x.fewest(0, 2, row), PunchedTicket.UNKNOWN);
      CHECK.due("fewest(2, 0)", x.fewest(2, 0, row), PunchedTicket.UNKNOWN);
      CHECK.due("fewest(2, 2)", x.fewest(2, 2, row), PunchedTicket.UNKNOWN);
      CHECK.due("fewest(-1, 0)", x.fewest(-1, 0, row), PunchedTicket.UNKNOWN);
      CHECK.due("fewest without TICKETS", x.fewest(0, 1, row), PunchedTicket.NONE);
    }
  }

  private static void giveIs(String when, PunchedTicket x, int number, int row) {
    CHECK.due(when + ": how many", x.fewest(0, 1, false), number);
    CHECK.due(when + ": the row", x.fewest(0, 1, true), row);
    CHECK.due(when + ": the row, the other way round", x.fewest(1, 0, true), row);
  }

  private static void fewest() {
    giveIs("they meet", Check.lineOf("LP000P000T00200T00211"), 0, 0);
    giveIs("one", Check.lineOf("LP000P000P000T59800T00200T00210"), 1, 11);
    giveIs("one, of number 0 to 0", Check.lineOf("LP000P000P000T00201T00201"), 1, 0);
    PunchedTicket two = Check.lineOf("LP000P000P000T59802T00202T00212");
    giveIs("two", two, 2, 1021);
    two.lose(1);
    giveIs("one of two is gone", two, PunchedTicket.NONE, PunchedTicket.NONE);
    // The PERSON 0 must get rid of its ways, then it stands where it can go with 1.
    giveIs("given away", Check.lineOf("LP000P200P500T00900T00910T10200T12011"), 2, 111);
    giveIs("three would do", Check.lineOf("LP000P200P500T00900T00910T00920T10200T12011"),
        PunchedTicket.NONE, PunchedTicket.NONE);
    // With 1 it would lead away too.
    giveIs("given away to a third", Check.lineOf("LP000P000P000T00900T10200T10211"), 1, 2);
    giveIs("one that stays", Check.lineOf("LP000P003P000T00202T00212"), PunchedTicket.NONE, PunchedTicket.NONE);
    PunchedTicket late = Check.lineOf("LP000P000T00200T00210");
    late.day();
    giveIs("too late", late, PunchedTicket.NONE, PunchedTicket.NONE);
  }

  private static void glad() {
    PunchedTicket x = Check.lineOf("LP120P330P451P561P013T01200T33401T54502T55603T00104");
    // 0 comes to 2, 1 leaves 3, the CHILDREN 2 and 3 come back, the one that stays is not at 1.
    CHECK.due("glad()", x.glad(), 1);
    CHECK.due("now", x.count(5), 1);
    x.day();
    CHECK.due("glad() behind a DAY", x.glad(), 1);
    CHECK.due("now behind a DAY", x.count(5), 2);
    x.lose(1);
    CHECK.due("glad() behind a loss", x.glad(), 2);
    CHECK.due("nobody", new PunchedTicket().glad(), 0);
    CHECK.due("one that stays where it likes to be", Check.lineOf("LP553T05600").glad(), 1);
    CHECK.due("a CHILD on the last DAY", Check.lineOf("LP121T91200").glad(), 1);
  }

  private static void falls() {
    PunchedTicket x = Check.lineOf("LP000T00100T11200T22300T00400T10500T25600");
    // With 0: by 0, 1, 2. Without 0: by 3 on DAY 0, to 4, no more. Without 1: 0 alone.
    int[] want = {102, 102, 101, 100, 100, 100};
    for (int ticket = 0; ticket < 6; ticket++) {
      CHECK.due("falls(" + ticket + ")", x.falls(ticket), want[ticket]);
    }
    x.lose(3);
    // Without 0: by 4 and 5, from where it still is.
    CHECK.due("falls(0) without 3", x.falls(0), 101);
    CHECK.due("falls of a gone one", x.falls(3), 100);
    CHECK.due("falls(6)", x.falls(6), PunchedTicket.UNKNOWN);
    CHECK.due("falls(-1)", x.falls(-1), PunchedTicket.UNKNOWN);
    CHECK.due("less than 0", Check.lineOf("LP000T00100T10200T22300").falls(0), 99);
    CHECK.due("there and back", Check.lineOf("LP001T00100").falls(0), 102);
    CHECK.due("handed on", Check.lineOf("LP002P002P002P002T00100").falls(0), 104);
    PunchedTicket half = Check.lineOf("LP001T00100");
    half.day();
    CHECK.due("from now on", half.falls(0), 101);
    half.day();
    CHECK.due("one that was used", half.falls(0), 100);
  }

  private static void bestChange() {
    CHECK.due("of like ones the least", Check.lineOf("LP010P020T00200T00101T00101").bestChange(), 1);
    CHECK.due("more is better", Check.lineOf("LP090P010P020T59800T00201T00102").bestChange(), 12);
    CHECK.due("most, not the first", Check.lineOf("LP010P020P050T00200T01202T00101").bestChange(), 2);
    CHECK.due("by none there are more", Check.lineOf("LP010P020T00100T00201").bestChange(), PunchedTicket.NONE);
    CHECK.due("as many are not more", Check.lineOf("LP010P010T00100T00201").bestChange(), PunchedTicket.NONE);
    CHECK.due("one PERSON's can't be changed", Check.lineOf("LP020P000T00100T00200").bestChange(), PunchedTicket.NONE);
    PunchedTicket x = Check.lineOf("LP010P020T00200T00101T00101");
    x.lose(1);
    CHECK.due("without a gone one", x.bestChange(), 2);
    x.day();
    CHECK.due("too late", x.bestChange(), PunchedTicket.NONE);
    CHECK.due("nobody", new PunchedTicket().bestChange(), PunchedTicket.NONE);
  }

  private static void shareIs(String when, PunchedTicket x, int ticket, int above, int below) {
    CHECK.due(when + ": above", x.share(ticket, true), above);
    CHECK.due(when + ": below", x.share(ticket, false), below);
  }

  private static void share() {
    shareIs("alone", Check.lineOf("LP010T00100"), 0, 1, 1);
    shareIs("away from where it likes to be", Check.lineOf("LP000T00100"), 0, -1, 1);
    PunchedTicket two = Check.lineOf("LP020T00100T11200");
    shareIs("the first of two", two, 0, 1, 2);
    shareIs("the second of two", two, 1, 1, 2);
    PunchedTicket three = Check.lineOf("LP030T00100T11200T22300");
    shareIs("one of three", three, 1, 1, 3);
    // The last one is enough by itself, and the first one alone spoils that.
    PunchedTicket either = Check.lineOf("LP020T00100T11200T20200");
    shareIs("the one that is enough", either, 2, 1, 2);
    shareIs("the first half, that helps as often as it spoils", either, 0, 0, 1);
    shareIs("the second half", either, 1, 1, 2);
    PunchedTicket back = Check.lineOf("LP000T00100T11000");
    shareIs("there", back, 0, -1, 2);
    shareIs("back", back, 1, 1, 2);
    shareIs("of no use", Check.lineOf("LP010T00100T59800"), 1, 0, 1);
    PunchedTicket six = Check.lineOf("LP060T00100T11200T22300T33400T44500T55600");
    shareIs("one of six", six, 3, 1, 6);
    PunchedTicket x = Check.lineOf("LP010T00100");
    CHECK.due("share(1, true)", x.share(1, true), PunchedTicket.UNKNOWN);
    CHECK.due("share(1, false)", x.share(1, false), PunchedTicket.UNKNOWN);
    CHECK.due("share(-1, false)", x.share(-1, false), PunchedTicket.UNKNOWN);
  }

  private static void shareOfGoneOnes() {
    PunchedTicket x = Check.lineOf("LP020T00100T11200T20200");
    x.lose(2);
    shareIs("gone", x, 2, 0, 1);
    shareIs("without it", x, 0, 1, 2);
    x.day();
    shareIs("used", x, 0, 0, 1);
    shareIs("from where it is now", x, 1, 1, 1);
  }

  private static void blankRefused() {
    PunchedTicket x = Check.lineOf("LP000P003");
    CHECK.due("blank(2, 0)", x.blank(2, 0), PunchedTicket.UNKNOWN);
    CHECK.due("blank(-1, 10)", x.blank(-1, 10), PunchedTicket.UNKNOWN);
    CHECK.due("blank(0, 10)", x.blank(0, 10), PunchedTicket.OUTSIDE);
    CHECK.due("blank(0, -1)", x.blank(0, -1), PunchedTicket.OUTSIDE);
    CHECK.due("blank(1, 10)", x.blank(1, 10), PunchedTicket.OUTSIDE);
    CHECK.due("blank(1, 0)", x.blank(1, 0), PunchedTicket.STATE);
  }

  private static void blank() {
    PunchedTicket x = Check.lineOf("LP000P500T00300T23400");
    CHECK.due("at once, for one without", x.blank(1, 9), 590);
    CHECK.due("between its own", x.blank(0, 8), 1380);
    CHECK.due("it lets its own go by first", x.blank(0, 3), 3430);
    CHECK.due("behind the last one of it", x.blank(0, 0), 1300);
    x.day();
    CHECK.due("from now on", x.blank(1, 9), 1590);
    Check.days(x, 8);
    CHECK.due("on the last DAY", x.blank(1, 9), 9590);
    x.day();
    CHECK.due("behind all DAYS", x.blank(1, 9), PunchedTicket.NONE);
    CHECK.due("a CHILD on the last DAY", Check.lineOf("LP001").blank(0, 7), 9070);
    // By 0 -> 1 on DAY 0 a READER goes again on DAY 3 and 6 and 9, if it is there again: it isn't.
    CHECK.due("a READER", Check.lineOf("LP002").blank(0, 7), 70);
    PunchedTicket six = Check.lineOf("LP000T00100T00100T00100T00100T00100T00100");
    CHECK.due("behind six, the last of all", six.blank(0, 9), 1190);
  }

  private static void blankSeats() {
    PunchedTicket x = Check.lineOf("LP000P000P900T00401T09512");
    CHECK.due("a SEAT beside one", x.blank(0, 3), 31);
    CHECK.due("a SEAT beside two", x.blank(0, 8), 82);
    CHECK.due("a SEAT beside one of a lesser number", Check.lineOf("LP000P000T00400").blank(1, 3), 31);
    CHECK.due("a CHILD, there", Check.lineOf("LP001P000T00401").blank(0, 0), 11);
    CHECK.due("a CHILD, there and back", Check.lineOf("LP001P000P900T00411T19002").blank(0, 0), 12);
    // The READER's blank one goes on to 1, who goes by it on DAY 3, beside 2 on SEAT 0.
    CHECK.due("one that was handed on", Check.lineOf("LP002P000P000T30502").blank(0, 4), 41);
    CHECK.due("it is as told when it is handed on", Check.lineOf("LP002P400P000T34502").blank(0, 4), 40);
  }

  private static void blankThatIsNotUsed() {
    PunchedTicket x = Check.lineOf("LP000P100T20501");
    CHECK.due("at once", x.blank(0, 7), 70);
    CHECK.due("it is not there when another call asks", x.where(0, 10), 0);
    CHECK.due("from where it is not", x.blank(0, 0), 100);
    CHECK.due("one that is at 1", x.blank(1, 1), 10);
    x.day();
    CHECK.due("for a DAY that went by", x.blank(0, 0), 10);
    Check.days(x, 9);
    CHECK.due("behind all DAYS", x.blank(0, 0), 10);
    // Its own TICKET for DAY 0 is the lesser one, so the blank one from 0 is of no use.
    CHECK.due("its own goes first", Check.lineOf("LP000T00500").blank(0, 5), 10);
  }

  private static void blankAgainstDoubles() {
    PunchedTicket x = Check.lineOf("LP000P000P900T10400T10401");
    CHECK.due("one that stands by can't mend it", x.blank(2, 5), PunchedTicket.NONE);
    CHECK.due("nor if it is there already", x.blank(2, 9), PunchedTicket.NONE);
    CHECK.due("one of the two goes ahead", x.blank(0, 4), 40);
    Check.days(x, 2);
    CHECK.due("what was, was", x.blank(2, 5), 2950);
  }

  private static void nothingIsChanged() {
    PunchedTicket x = Check.lineOf("LP000P052P111T00400T10501T51212T14000");
    x.day();
    StringBuilder before = all(x);
    x.where(0, 10);
    x.meet(0, 1);
    x.twoSeats();
    x.fewest(0, 1, true);
    x.fewest(0, 2, false);
    x.glad();
    x.falls(1);
    x.bestChange();
    x.share(1, true);
    x.blank(1, 7);
    x.held(1);
    x.losses(0, 1, 5, true);
    x.years(30);
    CHECK.holds("nothing is changed", before.toString().equals(all(x).toString()));
    CHECK.due("ACTS", x.count(6), 1);
    CHECK.due("undo()", x.undo(), 0);
  }

  private static StringBuilder all(PunchedTicket x) {
    StringBuilder b = new StringBuilder();
    for (int what = 0; what <= 7; what++) {
      b.append(x.count(what)).append(' ');
      for (int number = 0; number < 6; number++) {
        b.append(x.person(number, what)).append(' ').append(x.ticket(number, what)).append(' ');
      }
    }
    return b;
  }
}
