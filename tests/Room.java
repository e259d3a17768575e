import java.lang.management.ManagementFactory;

/**
 * The room that calls take: after a few calls to grow warm by, whatever is called makes nothing new
 * but SILLS; and the object itself is small. 512 calls of the dearest ones end soon.
 */
public final class Room {
  private static long made() {
    return ((com.sun.management.ThreadMXBean) ManagementFactory.getThreadMXBean())
        .getThreadAllocatedBytes(Thread.currentThread().getId());
  }

  private static long sum = 0;

  private static void law(DustInOrder x, String text) {
    for (int i = 0; i < text.length(); i++) {
      sum += x.feed(text.charAt(i));
    }
    sum += x.law();
  }

  private static void all(DustInOrder x, int i) {
    x.mend(0, 3, i % 4);
    x.mend(i % 5, 0, i % 10);
    law(x, i % 2 == 0 ? "w=s?0;(n+h)*(k+1)%7" : "((((((n))))))-!!!!!!g");
    x.look(i % 66);
    sum += x.later(0, 40, i % 5, i % 5) + x.laid(0, 40, i % 5, 2) + x.breath(i % 5, i % 100, 0) + x.clear(i % 5, i % 6);
    sum += x.touch(i % 5, i % 6, i % 10) + x.tellsOf(i % 6) + x.fewest(i % 64, 1) + x.corner() + x.lays(i % 5, i % 66);
    sum += x.ways(i % 5, 9) + x.first(i % 5, 9, 8) + x.least(i % 5) + x.certain(i % 5, 9) + x.alike(1, 3) + x.same(12);
    sum += x.likely(1, 1) + x.expected() + x.judge(0, 1) + x.drawn(i, 3040, i % 5, -1) + x.blow(i % 5, 3) + x.led(1);
    sum += x.image() + x.back() + x.undo() + x.redo() + x.act(i % 8, i % 4, i) + x.trace(1) + x.row(1, 3, 60);
    sum += x.put(1, 1, i) + x.element(1, 1) + x.shift(1, 0, 1, 1, 59) + x.keep(2, 3) + x.taken(2, 0) + x.count(4);
    sum += x.layer(i % 5, 1, 1) + x.of(1, 5) + (i % 7 == 0 ? x.sweep(i % 5) : 0);
  }

  private static DustInOrder furnished() {
    DustInOrder x = new DustInOrder();
    x.row(0, 0, 60);
    for (int i = 0; i < 60; i++) {
      x.put(0, i, i * 7 % 66);
    }
    x.sills(0, 0, 5);
    for (int i = 0; i < 8; i++) {
      x.sill(i, i);
      x.body(i);
    }
    return x;
  }

  public static void main(String[] args) {
    int wrong = 0;
    DustInOrder x = furnished();
    for (int i = 0; i < 50; i++) {
      all(x, i);
    }
    made();
    long before = made();
    for (int i = 0; i < 2000; i++) {
      all(x, i);
    }
    long bytes = made() - before;
    // measuring takes some bytes, too
    if (bytes > 4096) {
      wrong++;
      System.out.println("2000 rounds of calls made " + bytes + " bytes");
    }
    furnished();
    before = made();
    for (int i = 0; i < 100; i++) {
      sum += furnished().count(0);
    }
    long each = (made() - before) / 100;
    if (each > 60000) {
      wrong++;
      System.out.println("an object takes " + each + " bytes");
    }
    System.out.println("calls made " + bytes + " bytes, an object takes " + each + " (" + sum + ")");
    if (wrong != 0) {
      System.exit(1);
    }
  }
}
