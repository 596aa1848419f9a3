import java.lang.management.ManagementFactory;
import java.util.Random;

/**
 * All calls of one run live in one room of some 600,000 objects and arrays and 7.3 million fields and elements:
 * the dearest runs of 512 calls are made here, and what they make is counted in bytes. That many elements are
 * at least 30 million bytes; a tenth of it must do.
 */
public final class RoomTest {
  private static final long MOST = 3_000_000;

  private static long made() {
    return ((com.sun.management.ThreadMXBean) ManagementFactory.getThreadMXBean()).getCurrentThreadAllocatedBytes();
  }

  private static void counted(String what, long bytes) {
    Due.checked++;
    if (bytes > MOST) Due.fail(what + " makes " + bytes + " bytes, " + MOST + " are the most");
  }

  /** Flaky tests, six machines, four batches, all ticks there may be, and verdicts opened again and again. */
  private static long busy(long seed) {
    Random random = new Random(seed);
    long before = made();
    Greentrunk x = new Greentrunk();
    x.batches(8, 4);
    for (int m = 1; m < 6; m++) x.come(m);
    for (int t = 0; t < 10; t++) x.test(4095, 1, t % 9 + 1);
    int calls = 16;
    for (int c = 0; c < 60; c++, calls += 4) {
      x.begin(c % 8, -1);
      x.edit(c % 12, 1 + random.nextInt(9));
      x.make();
      x.queue(c, random.nextInt(4));
    }
    while (calls < 510) {
      x.outside(random.nextInt(10), random.nextInt(4) == 0);
      x.tick(30);
      calls += 2;
    }
    return made() - before;
  }

  /** The same questions over and over: what is only asked makes nothing. */
  private static long asking() {
    Greentrunk x = new Greentrunk();
    x.batches(8, 4);
    for (int t = 0; t < 10; t++) x.test(4095, 6, 9);
    for (int c = 0; c < 60; c++) {
      x.begin(c % 8, -1);
      x.edit(c % 12, 1 + c % 9);
      x.make();
      x.queue(c, c % 4);
    }
    long before = made();
    int sum = 0;
    for (int i = 0; i < 512; i++) {
      sum += x.isBroken() ? 1 : 0;
      sum += x.wouldLand(i % 60) ? 1 : 0;
      sum += x.queuedAt(i % 60) + x.batchOf(i % 60) + x.requires(i % 60);
    }
    long after = made();
    Due.is("asked", sum > 0);
    return after - before;
  }

  public static void main(String[] args) {
    busy(0);
    asking();
    for (long seed = 1; seed <= 20; seed++) counted("a busy run", busy(seed));
    Due.checked++;
    if (asking() > 1000) Due.fail("asking makes " + asking() + " bytes");
    long start = System.nanoTime();
    busy(21);
    System.out.println("a busy run: " + busy(22) + " bytes, " + (System.nanoTime() - start) / 2_000_000 + " ms");
    Due.end("RoomTest");
  }
}
