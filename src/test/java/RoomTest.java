import com.sun.management.ThreadMXBean;
import java.lang.management.ManagementFactory;

/** All calls of one run live in one room, so the dearest calls may make few objects only. */
public final class RoomTest extends Check {
  // 512 calls share the room: about 1170 objects and 14000 fields and elements each, of a byte or more.
  private static final long MOST_BYTES_A_CALL = 12_000;
  // With those that make the object, not more than 512.
  private static final int CALLS = 480;

  /** The longest texts and traces in each place. */
  private static Partarrows dearest() {
    Partarrows x = longest();
    x.copyArrow(0, 2);
    x.copyArrow(1, 2);
    x.copyArrow(3, 2);
    for (int box = 0; box < 4; box++) x.box(box, MIN);
    for (int key = 0; key < 10; key++) x.lay(key, MIN);
    x.ask(0, MIN);
    return x;
  }

  private static long bytesOf(Call call) {
    ThreadMXBean bean = (ThreadMXBean) ManagementFactory.getThreadMXBean();
    long thread = Thread.currentThread().getId();
    Partarrows x = dearest();
    long before = bean.getThreadAllocatedBytes(thread);
    for (int i = 0; i < CALLS; i++) {
      call.of(x);
    }
    return (bean.getThreadAllocatedBytes(thread) - before) / CALLS;
  }

  private static void isCheap(String name, Call call) {
    test("the room of " + name, () -> {
      // Once ahead, as what the machine itself makes at first is not the class's.
      bytesOf(call);
      long bytes = bytesOf(call);
      due("whether " + bytes + " bytes a call are let", bytes <= MOST_BYTES_A_CALL, true);
    });
  }

  public static void main(String[] args) {
    isCheap("digest()", x -> x.digest());
    isCheap("isSound()", x -> x.isSound());
    isCheap("isJoined()", x -> x.isJoined(0, 1, 2, MIN));
    isCheap("text()", x -> x.text(0));
    isCheap("trace()", x -> x.trace());
    isCheap("ask()", x -> x.ask(0, MIN));
    isCheap("domain()", x -> x.domain(0, MIN, 20));
    isCheap("areSame()", x -> x.areSame(0, 1, MIN, 20, true));
    isCheap("power()", x -> x.power(0, 1, 12));
    end();
  }
}
