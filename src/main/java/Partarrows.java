/**
 * Numbers in boxes that may be empty, and arrows: things that answer a number with a box.
 *
 * <p>A box, a key of the table and an answer are each held as a long: its number, or EMPTY.
 */
public final class Partarrows {
  private static final int NONE = -1;
  private static final int REFUSED = -9;

  private static final int BOXES = 4;
  private static final int ARROWS = 4;
  private static final int KEYS = 10;
  private static final int MAPS = 4;
  private static final int TESTS = 3;
  private static final int KINDS = 8;

  private static final int MOST_PARTS = 12;
  private static final int MOST_DEEP = 6;
  private static final int MOST_TIMES = 12;
  private static final int MOST_NUMBERS = 20;
  private static final int MOST_SHOWN = 30;
  private static final int HOUSE_QUESTIONS = 6;

  // An arrow within the limits leaves at most 28 marks, and at most three of them are put together.
  private static final int ROOM_FOR_MARKS = 96;

  // Lies beyond every int, so that no number is taken for it.
  private static final long EMPTY = 1L << 40;

  private static final int MAP_PLUS = 0;
  private static final int MAP_TIMES = 1;
  private static final int MAP_TURN = 2;

  private static final int TEST_EVEN = 0;
  private static final int TEST_BELOW = 1;
  private static final int TEST_UNLIKE = 2;

  private static final int UNIT = 0;
  private static final int VOID = 1;
  private static final int ADD = 2;
  private static final int HALF = 3;
  private static final int OVER = 4;
  private static final int BELOW = 5;
  private static final int TABLE = 6;
  private static final int JUST = 7;

  // The numbers with which isSound() and digest() ask the arrows; those put by "or" get one alone.
  private static final int[] PROBES = {-1, 0, 6};
  private static final int EITHER_PROBE = 6;

  private final long[] boxes = new long[BOXES];
  private final long[] table = new long[KEYS];
  private final Arrow[] arrows = new Arrow[ARROWS];
  private final Arrow unit = new Plain(UNIT, 0);

  // The TRACE, and two more askings for what must not change it.
  private final Asking told = new Asking(table);
  private final Asking aside = new Asking(table);
  private final Asking against = new Asking(table);

  // Kept and used again, as every text that a call makes stays in the room.
  private final StringBuilder writer = new StringBuilder();

  private int visited = 0;
  private int refusals = 0;
  private int knocks = 0;

  public Partarrows() {
    for (int box = 0; box < BOXES; box++) {
      boxes[box] = EMPTY;
    }
    for (int key = 0; key < KEYS; key++) {
      table[key] = EMPTY;
    }
    for (int arrow = 0; arrow < ARROWS; arrow++) {
      arrows[arrow] = unit;
    }
  }

  // ---- boxes

  public int box(int box, int number) throws IndexOutOfBoundsException {
    checkBox(box);
    return fill(boxes, box, number) ? 0 : 1;
  }

  public int maybe(int box, int number, boolean isThere) throws IndexOutOfBoundsException {
    checkBox(box);
    return fill(boxes, box, isThere ? number : EMPTY) ? 0 : 1;
  }

  public int none(int box) throws IndexOutOfBoundsException {
    checkBox(box);
    return fill(boxes, box, EMPTY) ? 0 : 1;
  }

  public int copy(int box, int from) throws IndexOutOfBoundsException {
    checkBox(box);
    checkBox(from);
    boolean wereAlike = boxes[box] == boxes[from];
    boxes[box] = boxes[from];
    return wereAlike ? 1 : 0;
  }

  public boolean isThere(int box) throws IndexOutOfBoundsException {
    checkBox(box);
    return boxes[box] != EMPTY;
  }

  public boolean isEmpty(int box) throws IndexOutOfBoundsException {
    checkBox(box);
    return boxes[box] == EMPTY;
  }

  public String number(int box) throws IndexOutOfBoundsException {
    checkBox(box);
    if (boxes[box] == EMPTY) {
      refusals++;
      return "!";
    }
    return digits(boxes[box]);
  }

  public int orElse(int box, int other) throws IndexOutOfBoundsException {
    checkBox(box);
    return numberOr(boxes[box], other);
  }

  public boolean areAlike(int box, int other) throws IndexOutOfBoundsException {
    checkBox(box);
    checkBox(other);
    return boxes[box] == boxes[other];
  }

  public int visit(int box) throws IndexOutOfBoundsException {
    checkBox(box);
    visited = numberOr(boxes[box], visited);
    return oneIfThere(boxes[box]);
  }

  public int visitElse(int box) throws IndexOutOfBoundsException {
    checkBox(box);
    visited = numberOr(boxes[box], visited - 1);
    return oneIfThere(boxes[box]);
  }

  // ---- what is done to boxes

  public int map(int box, int map, int n)
      throws IndexOutOfBoundsException, IllegalArgumentException {
    checkBox(box);
    checkMap(map);
    told.begin();
    return become(box, told.goThrough(map, n, boxes[box]));
  }

  public int filter(int box, int test, int n)
      throws IndexOutOfBoundsException, IllegalArgumentException {
    checkBox(box);
    checkTest(test);
    told.begin();
    return become(box, told.pass(test, n, boxes[box]));
  }

  public int bind(int box, int arrow) throws IndexOutOfBoundsException {
    checkBox(box);
    checkArrow(arrow);
    told.begin();
    return become(box, bound(boxes[box], arrows[arrow], told));
  }

  public int orBox(int box, int other) throws IndexOutOfBoundsException {
    checkBox(box);
    checkBox(other);
    told.begin();
    return become(box, boxes[box] == EMPTY ? boxes[other] : boxes[box]);
  }

  public int orArrow(int box, int arrow, int number) throws IndexOutOfBoundsException {
    checkBox(box);
    checkArrow(arrow);
    told.begin();
    return become(box, boxOrAnswer(box, arrow, number));
  }

  public int orAsk(int box, int arrow, int number) throws IndexOutOfBoundsException {
    checkBox(box);
    checkArrow(arrow);
    told.begin();
    return numberOr(boxOrAnswer(box, arrow, number), NONE);
  }

  // ---- arrows

  public int plain(int arrow, int kind, int n)
      throws IndexOutOfBoundsException, IllegalArgumentException {
    checkArrow(arrow);
    checkRange(kind, KINDS);
    return put(arrow, new Plain(kind, n));
  }

  public int copyArrow(int arrow, int from) throws IndexOutOfBoundsException {
    checkArrow(arrow);
    checkArrow(from);
    return put(arrow, arrows[from]);
  }

  public int then(int arrow, int first, int second) throws IndexOutOfBoundsException {
    checkArrow(arrow);
    checkArrow(first);
    checkArrow(second);
    return put(arrow, new Then(arrows[first], arrows[second]));
  }

  public int otherwise(int arrow, int first, int second) throws IndexOutOfBoundsException {
    checkArrow(arrow);
    checkArrow(first);
    checkArrow(second);
    return put(arrow, new Otherwise(arrows[first], arrows[second]));
  }

  public int when(int arrow, int test, int n, int first)
      throws IndexOutOfBoundsException, IllegalArgumentException {
    checkArrow(arrow);
    checkArrow(first);
    checkTest(test);
    return put(arrow, new When(test, n, arrows[first]));
  }

  public int mapped(int arrow, int first, int map, int n)
      throws IndexOutOfBoundsException, IllegalArgumentException {
    checkArrow(arrow);
    checkArrow(first);
    checkMap(map);
    return put(arrow, new Mapped(arrows[first], map, n));
  }

  public int power(int arrow, int first, int many)
      throws IndexOutOfBoundsException, IllegalArgumentException {
    checkArrow(arrow);
    checkArrow(first);
    checkRange(many, MOST_TIMES + 1);
    Arrow one = arrows[first];
    Arrow made = many == 0 ? unit : one;
    for (int times = 1; times < many; times++) {
      made = new Then(made, one);
    }
    return put(arrow, made);
  }

  public int lay(int key, int number) throws IndexOutOfBoundsException {
    checkKey(key);
    return fill(table, key, number) ? 1 : 0;
  }

  public int lift(int key) throws IndexOutOfBoundsException {
    checkKey(key);
    return fill(table, key, EMPTY) ? 1 : 0;
  }

  // ---- asking arrows

  public String ask(int arrow, int number) throws IndexOutOfBoundsException {
    checkArrow(arrow);
    told.begin();
    return digits(arrows[arrow].answer(number, told));
  }

  public int askInto(int box, int arrow, int number) throws IndexOutOfBoundsException {
    checkBox(box);
    checkArrow(arrow);
    told.begin();
    return become(box, arrows[arrow].answer(number, told));
  }

  public String trace() {
    writer.setLength(0);
    told.write(writer);
    return writer.toString();
  }

  public int traced() {
    return told.count;
  }

  public int parts(int arrow) throws IndexOutOfBoundsException {
    checkArrow(arrow);
    return arrows[arrow].size;
  }

  public int deep(int arrow) throws IndexOutOfBoundsException {
    checkArrow(arrow);
    return arrows[arrow].depth;
  }

  public String text(int arrow) throws IndexOutOfBoundsException {
    checkArrow(arrow);
    writer.setLength(0);
    arrows[arrow].write(writer);
    return writer.toString();
  }

  // ---- asking more

  public int domain(int arrow, int low, int many)
      throws IndexOutOfBoundsException, IllegalArgumentException {
    checkArrow(arrow);
    checkRange(many, MOST_NUMBERS + 1);
    int answered = 0;
    for (int i = 0; i < many; i++) {
      long number = (long) low + i;
      if (canBeTold(number) && answerAside(arrows[arrow], (int) number) != EMPTY) {
        answered++;
      }
    }
    return answered;
  }

  public boolean areSame(int arrow, int other, int low, int many, boolean isTraced)
      throws IndexOutOfBoundsException, IllegalArgumentException {
    checkArrow(arrow);
    checkArrow(other);
    checkRange(many, MOST_NUMBERS + 1);
    for (int i = 0; i < many; i++) {
      long number = (long) low + i;
      if (canBeTold(number) && !agree(arrows[arrow], arrows[other], (int) number, isTraced)) {
        return false;
      }
    }
    return true;
  }

  public boolean isUnit(int arrow, int number) throws IndexOutOfBoundsException {
    checkArrow(arrow);
    Arrow one = arrows[arrow];
    return agree(new Then(unit, one), one, number, true)
        && agree(new Then(one, unit), one, number, true);
  }

  public boolean isJoined(int first, int second, int third, int number)
      throws IndexOutOfBoundsException {
    checkArrow(first);
    checkArrow(second);
    checkArrow(third);
    Arrow firstPair = new Then(new Then(arrows[first], arrows[second]), arrows[third]);
    Arrow lastPair = new Then(arrows[first], new Then(arrows[second], arrows[third]));
    return agree(firstPair, lastPair, number, true);
  }

  public boolean isMapped(int box, int map, int n, int other, int m)
      throws IndexOutOfBoundsException, IllegalArgumentException {
    checkBox(box);
    checkMap(map);
    checkMap(other);
    aside.begin();
    long oneByOne = aside.goThrough(other, m, aside.goThrough(map, n, boxes[box]));
    return oneByOne == throughBothAtOnce(boxes[box], map, n, other, m);
  }

  // ---- all of it

  public int house(int what) throws IllegalArgumentException {
    checkRange(what, HOUSE_QUESTIONS);
    switch (what) {
      case 0:
        return countThere(boxes);
      case 1:
        return countThere(table);
      case 2:
        return countParts();
      case 3:
        return visited;
      case 4:
        return refusals;
      default:
        return knocks;
    }
  }

  public int knock() {
    knocks++;
    return knocks;
  }

  public boolean isSound() {
    for (int k = 0; k < ARROWS; k++) {
      int next = (k + 1) % ARROWS;
      int last = (k + 2) % ARROWS;
      for (int number : PROBES) {
        if (!isUnit(k, number) || !isJoined(k, next, last, number)) {
          return false;
        }
      }
      if (!isEitherJoined(arrows[k], arrows[next], arrows[last])) {
        return false;
      }
    }
    for (int box = 0; box < BOXES; box++) {
      if (!isBoxSound(box)) {
        return false;
      }
    }
    return true;
  }

  public long digest() {
    long d = 7841;
    for (int what = 0; what < HOUSE_QUESTIONS; what++) {
      d = mix(d, house(what));
    }
    d = mixSlots(d, boxes);
    d = mixSlots(d, table);
    d = mix(d, told.count);
    writer.setLength(0);
    told.write(writer);
    d = mixWritten(d);
    for (int arrow = 0; arrow < ARROWS; arrow++) {
      d = mixArrow(d, arrows[arrow]);
    }
    return mix(d, isSound() ? 1 : 0);
  }

  // ---- what is let

  private static void checkBox(int box) {
    if (box < 0 || box >= BOXES) {
      throw new IndexOutOfBoundsException("there is no such box");
    }
  }

  private static void checkArrow(int arrow) {
    if (arrow < 0 || arrow >= ARROWS) {
      throw new IndexOutOfBoundsException("there is no such arrow");
    }
  }

  private static void checkKey(int key) {
    if (key < 0 || key >= KEYS) {
      throw new IndexOutOfBoundsException("there is no such key");
    }
  }

  private static void checkMap(int map) {
    checkRange(map, MAPS);
  }

  private static void checkTest(int test) {
    checkRange(test, TESTS);
  }

  private static void checkRange(int value, int end) {
    if (value < 0 || value >= end) {
      throw new IllegalArgumentException("out of the range that is let");
    }
  }

  // ---- numbers that may be empty

  private static boolean canBeTold(long value) {
    return value == (int) value;
  }

  private static long toldOrEmpty(long value) {
    return canBeTold(value) ? value : EMPTY;
  }

  private static int numberOr(long slot, int other) {
    return slot == EMPTY ? other : (int) slot;
  }

  private static int oneIfThere(long slot) {
    return slot == EMPTY ? 0 : 1;
  }

  private static boolean fill(long[] slots, int place, long value) {
    boolean wasThere = slots[place] != EMPTY;
    slots[place] = value;
    return wasThere;
  }

  private static int countThere(long[] slots) {
    int there = 0;
    for (long slot : slots) {
      there += oneIfThere(slot);
    }
    return there;
  }

  private int become(int box, long value) {
    boxes[box] = value;
    return oneIfThere(value);
  }

  private String digits(long slot) {
    writer.setLength(0);
    writeDigits(slot);
    return writer.toString();
  }

  private void writeDigits(long slot) {
    if (slot != EMPTY) {
      writer.append((int) slot);
    }
  }

  // ---- maps and tests

  private static long mapAnswer(int kind, int n, int x) {
    switch (kind) {
      case MAP_PLUS:
        return x + n;
      case MAP_TIMES:
        return x * n;
      case MAP_TURN:
        return n - x;
      default:
        return x % 2 == 0 ? x / 2 : EMPTY;
    }
  }

  private static boolean isSo(int kind, int n, int x) {
    switch (kind) {
      case TEST_EVEN:
        return x % 2 == 0;
      case TEST_BELOW:
        return x < n;
      default:
        return x != n;
    }
  }

  private static long throughBothAtOnce(long slot, int map, int n, int other, int m) {
    if (slot == EMPTY) {
      return EMPTY;
    }
    long between = mapAnswer(map, n, (int) slot);
    return between == EMPTY ? EMPTY : mapAnswer(other, m, (int) between);
  }

  // ---- arrows put in their places, and asked

  private int put(int arrow, Arrow made) {
    if (made.size > MOST_PARTS || made.depth > MOST_DEEP) {
      refusals++;
      return REFUSED;
    }
    arrows[arrow] = made;
    return made.size;
  }

  private int countParts() {
    int sum = 0;
    for (Arrow arrow : arrows) {
      sum += arrow.size;
    }
    return sum;
  }

  private static long bound(long slot, Arrow arrow, Asking asking) {
    return slot == EMPTY ? EMPTY : arrow.answer((int) slot, asking);
  }

  private long boxOrAnswer(int box, int arrow, int number) {
    return boxes[box] == EMPTY ? arrows[arrow].answer(number, told) : boxes[box];
  }

  private long answerAside(Arrow arrow, int number) {
    aside.begin();
    return arrow.answer(number, aside);
  }

  private boolean agree(Arrow one, Arrow other, int number, boolean isTraced) {
    aside.begin();
    against.begin();
    boolean isAlike = one.answer(number, aside) == other.answer(number, against);
    return isAlike && (!isTraced || aside.hasMarksOf(against));
  }

  // ---- what is sound

  private boolean isEitherJoined(Arrow first, Arrow second, Arrow third) {
    Arrow lastPair = new Otherwise(first, new Otherwise(second, third));
    Arrow firstPair = new Otherwise(new Otherwise(first, second), third);
    return agree(lastPair, firstPair, EITHER_PROBE, true);
  }

  private boolean isBoxSound(int box) {
    long slot = boxes[box];
    aside.begin();
    long turned = aside.goThrough(MAP_TURN, 5, aside.goThrough(MAP_TURN, 5, slot));
    return isOrElseSound(box, 0)
        && isOrElseSound(box, 1)
        && bound(slot, unit, aside) == slot
        && turned == slot
        && aside.pass(TEST_UNLIKE, numberOr(slot, 0), slot) == EMPTY;
  }

  private boolean isOrElseSound(int box, int other) {
    long due = boxes[box] == EMPTY ? other : boxes[box];
    return orElse(box, other) == due;
  }

  // ---- the checksum

  private static long mix(long d, long v) {
    return d * 31 + v;
  }

  private static long mixSlots(long d, long[] slots) {
    long mixed = d;
    for (long slot : slots) {
      mixed = mix(mix(mixed, oneIfThere(slot)), numberOr(slot, 0));
    }
    return mixed;
  }

  private long mixWritten(long d) {
    long mixed = d;
    for (int i = 0; i < writer.length(); i++) {
      mixed = mix(mixed, writer.charAt(i));
    }
    return mixed;
  }

  private long mixArrow(long d, Arrow arrow) {
    long mixed = mix(mix(d, arrow.size), arrow.depth);
    writer.setLength(0);
    arrow.write(writer);
    for (int number : PROBES) {
      writeDigits(answerAside(arrow, number));
    }
    return mixWritten(mixed);
  }

  /** What asked parts look into, and the marks that they leave. */
  private static final class Asking {
    final long[] known;
    final char[] letters = new char[ROOM_FOR_MARKS];
    final int[] kinds = new int[ROOM_FOR_MARKS];
    final int[] numbers = new int[ROOM_FOR_MARKS];
    int count = 0;

    Asking(long[] known) {
      this.known = known;
    }

    void begin() {
      count = 0;
    }

    void leave(char letter, int kind, int number) {
      if (count < ROOM_FOR_MARKS) {
        letters[count] = letter;
        kinds[count] = kind;
        numbers[count] = number;
        count++;
      }
    }

    long lookUp(int key) {
      return key >= 0 && key < known.length ? known[key] : EMPTY;
    }

    long goThrough(int map, int n, long slot) {
      if (slot == EMPTY) {
        return EMPTY;
      }
      leave('m', map, (int) slot);
      return mapAnswer(map, n, (int) slot);
    }

    long pass(int test, int n, long slot) {
      if (slot == EMPTY) {
        return EMPTY;
      }
      leave('t', test, (int) slot);
      return isSo(test, n, (int) slot) ? slot : EMPTY;
    }

    boolean hasMarksOf(Asking other) {
      if (count != other.count) {
        return false;
      }
      for (int i = 0; i < count; i++) {
        if (letters[i] != other.letters[i]
            || kinds[i] != other.kinds[i]
            || numbers[i] != other.numbers[i]) {
          return false;
        }
      }
      return true;
    }

    void write(StringBuilder out) {
      for (int i = 0; i < count && i < MOST_SHOWN; i++) {
        if (i > 0) {
          out.append(' ');
        }
        out.append(letters[i]);
        out.append(kinds[i]);
        out.append(':');
        out.append(numbers[i]);
      }
    }
  }

  /** An arrow never changes once it is made, so that several may share it as a part. */
  private abstract static class Arrow {
    final int size;
    final int depth;

    Arrow(int size, int depth) {
      this.size = size;
      this.depth = depth;
    }

    abstract long answer(int x, Asking asking);

    abstract void write(StringBuilder out);
  }

  private static final class Plain extends Arrow {
    final int kind;
    final int n;

    Plain(int kind, int n) {
      super(1, 1);
      this.kind = kind;
      this.n = n;
    }

    long answer(int x, Asking asking) {
      if (kind != UNIT) {
        asking.leave('a', kind, x);
      }
      switch (kind) {
        case UNIT:
          return x;
        case ADD:
          return toldOrEmpty((long) x + n);
        case HALF:
          return x % 2 == 0 ? x / 2 : EMPTY;
        case OVER:
          return x == 0 ? EMPTY : toldOrEmpty((long) n / x);
        case BELOW:
          return x < n ? x : EMPTY;
        case TABLE:
          return asking.lookUp(x);
        case JUST:
          return n;
        default:
          return EMPTY;
      }
    }

    void write(StringBuilder out) {
      out.append(word());
      if (kind == ADD || kind == OVER || kind == BELOW || kind == JUST) {
        out.append(n);
      }
    }

    String word() {
      switch (kind) {
        case UNIT:
          return "unit";
        case VOID:
          return "void";
        case ADD:
          return "add";
        case HALF:
          return "half";
        case OVER:
          return "over";
        case BELOW:
          return "below";
        case TABLE:
          return "table";
        default:
          return "just";
      }
    }
  }

  /** An arrow made of two. */
  private abstract static class Pair extends Arrow {
    final Arrow first;
    final Arrow second;

    Pair(Arrow first, Arrow second) {
      super(first.size + second.size, 1 + Math.max(first.depth, second.depth));
      this.first = first;
      this.second = second;
    }

    void writeBoth(StringBuilder out, char between) {
      out.append('(');
      first.write(out);
      out.append(between);
      second.write(out);
      out.append(')');
    }
  }

  private static final class Then extends Pair {
    Then(Arrow first, Arrow second) {
      super(first, second);
    }

    long answer(int x, Asking asking) {
      return bound(first.answer(x, asking), second, asking);
    }

    void write(StringBuilder out) {
      writeBoth(out, ';');
    }
  }

  private static final class Otherwise extends Pair {
    Otherwise(Arrow first, Arrow second) {
      super(first, second);
    }

    long answer(int x, Asking asking) {
      long answered = first.answer(x, asking);
      return answered == EMPTY ? second.answer(x, asking) : answered;
    }

    void write(StringBuilder out) {
      writeBoth(out, '|');
    }
  }

  private static final class When extends Arrow {
    final int test;
    final int n;
    final Arrow first;

    When(int test, int n, Arrow first) {
      super(first.size, 1 + first.depth);
      this.test = test;
      this.n = n;
      this.first = first;
    }

    long answer(int x, Asking asking) {
      return bound(asking.pass(test, n, x), first, asking);
    }

    void write(StringBuilder out) {
      out.append('[');
      out.append(test);
      out.append(',');
      out.append(n);
      out.append(']');
      first.write(out);
    }
  }

  private static final class Mapped extends Arrow {
    final Arrow first;
    final int map;
    final int n;

    Mapped(Arrow first, int map, int n) {
      super(first.size, 1 + first.depth);
      this.first = first;
      this.map = map;
      this.n = n;
    }

    long answer(int x, Asking asking) {
      return asking.goThrough(map, n, first.answer(x, asking));
    }

    void write(StringBuilder out) {
      first.write(out);
      out.append('{');
      out.append(map);
      out.append(',');
      out.append(n);
      out.append('}');
    }
  }
}
