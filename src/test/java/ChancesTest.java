/** Promises 25 to 27: losses by chance, and years by a seed. */
public final class ChancesTest {
  private static final Check CHECK = new Check("ChancesTest");

  public static void main(String[] args) {
    lossesRefused();
    losses();
    lossesOfSix();
    seed();
    yearsRefused();
    years();
    yearsOfMany();
    CHECK.end();
  }

  private static void chanceIs(String when, PunchedTicket x, int[] call, int above, int below) {
    CHECK.due(when + ": above", x.losses(call[0], call[1], call[2], true), above);
    CHECK.due(when + ": below", x.losses(call[0], call[1], call[2], false), below);
  }

  private static int[] call(int person, int stop, int x) {
    return new int[] {person, stop, x};
  }

  private static void lossesRefused() {
    PunchedTicket x = Check.lineOf("LP000");
    for (int i = 0; i < 2; i++) {
      boolean upper = i == 0;
      CHECK.due("losses(1, 0, 0)", x.losses(1, 0, 0, upper), PunchedTicket.UNKNOWN);
      CHECK.due("losses(-1, 10, 11)", x.losses(-1, 10, 11, upper), PunchedTicket.UNKNOWN);
      CHECK.due("losses(0, 10, 0)", x.losses(0, 10, 0, upper), PunchedTicket.OUTSIDE);
      CHECK.due("losses(0, -1, 0)", x.losses(0, -1, 0, upper), PunchedTicket.OUTSIDE);
      CHECK.due("losses(0, 0, 11)", x.losses(0, 0, 11, upper), PunchedTicket.OUTSIDE);
      CHECK.due("losses(0, 0, -1)", x.losses(0, 0, -1, upper), PunchedTicket.OUTSIDE);
    }
  }

  private static void losses() {
    PunchedTicket x = Check.lineOf("LP000P500T00300T13700");
    chanceIs("both are there", x, call(0, 7, 3), 49, 100);
    chanceIs("only the first", x, call(0, 3, 3), 21, 100);
    chanceIs("the first is lost", x, call(0, 0, 3), 3, 10);
    chanceIs("in least terms", x, call(0, 7, 5), 1, 4);
    chanceIs("nothing is lost", x, call(0, 7, 0), 1, 1);
    chanceIs("nothing is lost, elsewhere", x, call(0, 0, 0), 0, 1);
    chanceIs("all is lost", x, call(0, 0, 10), 1, 1);
    chanceIs("all is lost, elsewhere", x, call(0, 7, 10), 0, 1);
    chanceIs("never there", x, call(0, 9, 5), 0, 1);
    chanceIs("without TICKETS", x, call(1, 5, 5), 1, 1);
    x.lose(1);
    chanceIs("one is gone", x, call(0, 3, 3), 7, 10);
    x.day();
    chanceIs("it went by it", x, call(0, 3, 3), 1, 1);
    CHECK.due("nothing is changed", x.count(4), 3);
  }

  private static void lossesOfSix() {
    PunchedTicket x = Check.lineOf("LP000T00100T11200T22300T33400T44500T55600");
    chanceIs("none of six is lost", x, call(0, 6, 1), 531441, 1000000);
    chanceIs("the last of six is lost", x, call(0, 5, 1), 59049, 1000000);
    chanceIs("none of six, by halves", x, call(0, 6, 5), 1, 64);
    PunchedTicket other = Check.lineOf("LP000T00500T10500");
    chanceIs("one of two will do", other, call(0, 5, 3), 91, 100);
  }

  private static void seed() {
    PunchedTicket x = new PunchedTicket();
    CHECK.due("seed at first", x.seed(Long.MIN_VALUE), 0);
    CHECK.due("seed of least", x.seed(Long.MAX_VALUE), Long.MIN_VALUE);
    CHECK.due("seed of most", x.seed(-1), Long.MAX_VALUE);
    CHECK.due("seed of -1", x.seed(0), -1);
  }

  private static void yearsRefused() {
    PunchedTicket x = Check.lineOf("LP010T00100");
    x.seed(5);
    CHECK.due("years(0)", x.years(0), PunchedTicket.OUTSIDE);
    CHECK.due("years(-1)", x.years(-1), PunchedTicket.OUTSIDE);
    CHECK.due("years(31)", x.years(31), PunchedTicket.OUTSIDE);
    CHECK.due("THE SEED is as it was", x.seed(0), 5);
  }

  /** The seed whose next one, by its upper 31 bits, is as wanted: the step undone. */
  private static long seedAhead(long next) {
    long factor = 6364136223846793005L;
    long inverse = factor;
    for (int i = 0; i < 6; i++) {
      inverse *= 2 - factor * inverse;
    }
    return (next - 1442695040888963407L) * inverse;
  }

  private static void years() {
    // 0 needs TICKETS 0 and 1, 1 needs to lose TICKET 2, 2 is glad anyway.
    PunchedTicket x = Check.lineOf("LP020P550P993T00100T11200T05601");
    int[] want = new int[64];
    for (int lost = 0; lost < 64; lost++) {
      want[lost] = 1 + ((lost & 3) == 0 ? 1 : 0) + ((lost & 4) != 0 ? 1 : 0);
      long next = (long) lost << 33 | 0x1FFFFFFFFL - lost | (lost % 2 == 0 ? Long.MIN_VALUE : 0);
      x.seed(seedAhead(next));
      CHECK.due("years(1) of " + lost, x.years(1), want[lost]);
      CHECK.due("THE SEED then", x.seed(0), next);
    }
    CHECK.due("nothing is LOST", x.count(4), 0);
    x.lose(2);
    x.seed(seedAhead(0));
    CHECK.due("what is gone is gone", x.years(1), 3);
    PunchedTicket nobody = new PunchedTicket();
    CHECK.due("nobody", nobody.years(30), 0);
  }

  private static void yearsOfMany() {
    PunchedTicket x = Check.lineOf("LP020P550P993T00100T11200T05601");
    long seed = 12345;
    x.seed(seed);
    int want = 0;
    for (int year = 0; year < 30; year++) {
      seed = seed * 6364136223846793005L + 1442695040888963407L;
      int lost = (int) Long.remainderUnsigned(seed >>> 33, 64);
      want += 1 + ((lost & 3) == 0 ? 1 : 0) + ((lost & 4) != 0 ? 1 : 0);
    }
    CHECK.due("years(30)", x.years(30), want);
    CHECK.due("THE SEED then", x.seed(12345), seed);
    CHECK.due("years by parts", x.years(13) + x.years(17), want);
    CHECK.due("THE SEED by parts", x.seed(0), seed);
  }
}
