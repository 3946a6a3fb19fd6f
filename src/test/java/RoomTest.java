import com.sun.management.ThreadMXBean;
import java.lang.management.ManagementFactory;

/** All calls of one run live in one room, so the dearest calls may make few objects only. */
public final class RoomTest {
  // 1171 objects a call is what 512 calls may share; the bytes stand for far fewer than that.
  private static final long MOST_BYTES_A_CALL = 12_000;
  private static final int CALLS = 512;

  private static int wrong = 0;

  private interface Call {
    Object run();
  }

  private static Partarrows widest() {
    Partarrows x = new Partarrows();
    x.plain(0, 2, Integer.MIN_VALUE);
    x.when(0, 2, Integer.MIN_VALUE, 0);
    x.mapped(0, 0, 2, Integer.MIN_VALUE);
    x.otherwise(0, 0, 0);
    x.otherwise(0, 0, 0);
    x.otherwise(0, 0, 0);
    x.copyArrow(1, 0);
    x.copyArrow(2, 0);
    x.copyArrow(3, 0);
    x.ask(0, -7);
    return x;
  }

  private static void isCheap(String name, Call call) {
    ThreadMXBean bean = (ThreadMXBean) ManagementFactory.getThreadMXBean();
    long thread = Thread.currentThread().getId();
    call.run();
    long before = bean.getThreadAllocatedBytes(thread);
    for (int i = 0; i < CALLS; i++) {
      call.run();
    }
    long bytes = (bean.getThreadAllocatedBytes(thread) - before) / CALLS;
    if (bytes > MOST_BYTES_A_CALL) {
      wrong++;
      System.out.println(name + " makes " + bytes + " bytes a call, let are " + MOST_BYTES_A_CALL);
    }
  }

  public static void main(String[] args) {
    Partarrows x = widest();
    isCheap("digest()", () -> x.digest());
    isCheap("isSound()", () -> x.isSound());
    isCheap("text()", () -> x.text(0));
    isCheap("trace()", () -> x.trace());
    isCheap("ask()", () -> x.ask(0, -7));
    isCheap("domain()", () -> x.domain(0, -7, 20));
    isCheap("areSame()", () -> x.areSame(0, 1, -7, 20, true));
    isCheap("power()", () -> x.power(0, 1, 12));
    System.out.println(wrong == 0 ? "all calls are as cheap as due" : wrong + " calls are too dear");
    if (wrong != 0) System.exit(1);
  }
}
