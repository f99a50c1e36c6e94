import java.lang.management.ManagementFactory;
import java.util.Random;

/** All calls of a run live in one room: no call may make objects for itself but the first ACTS and SLOTS. */
public final class RoomTest {
  private static final Check CHECK = new Check("RoomTest");
  private static final String FULL = "LP050P461P132P240P580T00500T14610T21320T32430T44530T55840";
  private static long sum = 0;

  public static void main(String[] args) {
    com.sun.management.ThreadMXBean threads = (com.sun.management.ThreadMXBean) ManagementFactory.getThreadMXBean();
    for (int warm = 0; warm < 20; warm++) {
      run(warm);
    }
    long before = threads.getCurrentThreadAllocatedBytes();
    run(1);
    long bytes = threads.getCurrentThreadAllocatedBytes() - before;
    System.out.println("a run of 512 calls makes " + bytes + " bytes");
    CHECK.holds("a run makes little: " + bytes, bytes < 40_000);
    CHECK.holds("answers were given", sum != 0);
    CHECK.end();
  }

  private static void run(int seed) {
    PunchedTicket x = new PunchedTicket();
    for (int i = 0; i < FULL.length(); i++) {
      x.write(FULL.charAt(i));
    }
    x.line();
    Random random = new Random(seed);
    for (int call = FULL.length() + 1; call < 512; call++) {
      sum += answer(x, call % 21, random.nextInt(6), random.nextInt(5), random.nextBoolean());
    }
  }

  private static long answer(PunchedTicket x, int call, int ticket, int person, boolean side) {
    switch (call) {
      case 0: return x.day();
      case 1: return x.give(ticket, person);
      case 2: return x.change(ticket, person);
      case 3: return x.where(person, 10);
      case 4: return x.meet(person, ticket);
      case 5: return x.twoSeats();
      case 6: return x.fewest(person, ticket, side);
      case 7: return x.glad();
      case 8: return x.falls(ticket);
      case 9: return x.bestChange();
      case 10: return x.share(ticket, side);
      case 11: return x.blank(person, ticket);
      case 12: return x.see(person, ticket, 10);
      case 13: return x.held(ticket);
      case 14: return x.losses(person, ticket, 3, side);
      case 15: return x.years(30);
      case 16: return x.keep(ticket % 2);
      case 17: return x.again(ticket % 2);
      case 18: return x.fault();
      case 19: return x.line();
      default: return x.undo();
    }
  }
}
