/** The edges of what the document says ahead of all parts, and of the promises 40 to 43. */
public final class WholeEdgesTest extends Check {
  private static final int CALLS = 512;

  // ---- refused, and counted

  private static void refusedIsCounted() {
    Partarrows x = atTheLimits();
    String before = seen(x);
    int told = 0;
    for (int times = 1; times <= 20; times++) {
      told += x.then(3, 0, 0) + x.otherwise(3, 0, 0) + x.when(3, EVEN, 0, 1) + x.mapped(3, 1, PLUS, 0);
      told += x.power(3, 1, 12);
      due("house(4)", x.house(4), 1 + 5 * times);
    }
    due("all that was told", told, 100 * REFUSED);
    due("what is seen then", seen(x), before);
  }

  private static void refusedThenLet() {
    Partarrows x = atTheLimits();
    due("then() of 13 parts", x.then(0, 0, 2), REFUSED);
    due("then() of 5 parts", x.then(0, 3, 2), 5);
    due("house(4)", x.house(4), 2);
  }

  private static void numbersAreNotCounted() {
    Partarrows x = new Partarrows();
    x.box(0, REFUSED);
    x.plain(0, JUST, REFUSED);
    due("orElse()", x.orElse(0, 1), REFUSED);
    due("orElse() of an empty one", x.orElse(1, REFUSED), REFUSED);
    due("orAsk()", x.orAsk(0, 0, 1), REFUSED);
    due("orAsk() of an empty one", x.orAsk(1, 0, 1), REFUSED);
    due("ask()", x.ask(0, 1), "-9");
    due("number()", x.number(0), "-9");
    due("visit()", x.visit(0), 1);
    due("house(3)", x.house(3), REFUSED);
    due("house(4)", x.house(4), 0);
  }

  private static void throwsIsNotCounted() {
    Partarrows x = used();
    String before = allSeen(x);
    due("number(4)", answer(x, y -> y.number(4)), "throws.IndexOutOfBoundsException");
    due("power()", answer(x, y -> y.power(0, 0, 13)), "throws.IllegalArgumentException");
    due("then()", answer(x, y -> y.then(0, 0, 4)), "throws.IndexOutOfBoundsException");
    due("house()", answer(x, y -> y.house(6)), "throws.IllegalArgumentException");
    due("what is seen then", allSeen(x), before);
  }

  // ---- house

  private static void dueHouse(Partarrows x, int... wants) {
    for (int what = 0; what < wants.length; what++) due("house(" + what + ")", x.house(what), wants[what]);
  }

  private static void houseAtFirst() {
    dueHouse(new Partarrows(), 0, 0, 4, 0, 0, 0);
  }

  private static void houseOfBoxes() {
    Partarrows x = new Partarrows();
    int[] numbers = {0, NONE, MIN, MAX};
    for (int box = 0; box < 4; box++) {
      x.box(box, numbers[box]);
      dueHouse(x, box + 1, 0, 4, 0, 0, 0);
    }
    for (int box = 0; box < 4; box++) {
      x.none(box);
      dueHouse(x, 3 - box, 0, 4, 0, 0, 0);
    }
  }

  private static void houseOfKeys() {
    Partarrows x = new Partarrows();
    int[] numbers = {0, NONE, MIN, MAX};
    for (int key = 0; key < 10; key++) {
      x.lay(key, numbers[key % 4]);
      dueHouse(x, 0, key + 1, 4, 0, 0, 0);
    }
    for (int key = 0; key < 10; key++) {
      x.lift(key);
      dueHouse(x, 0, 9 - key, 4, 0, 0, 0);
    }
  }

  private static void houseOfParts() {
    Partarrows x = atTheLimits();
    due("house(2) of 12, 6, 1 and 4", x.house(2), 23);
    for (int arrow = 1; arrow < 4; arrow++) x.copyArrow(arrow, 0);
    due("house(2) of 12 in each", x.house(2), 48);
    x.then(1, 0, 0);
    due("house(2) where it is refused", x.house(2), 48);
    for (int arrow = 0; arrow < 4; arrow++) x.plain(arrow, VOID, 0);
    due("house(2) of plain ones", x.house(2), 4);
  }

  private static void houseOfVisited() {
    Partarrows x = new Partarrows();
    for (int number : new int[] {MAX, MIN, NONE, 0}) {
      x.box(0, number);
      x.visit(0);
      dueHouse(x, 1, 0, 4, number, 0, 0);
    }
    x.visitElse(1);
    dueHouse(x, 1, 0, 4, -1, 0, 0);
  }

  private static void houseOfTold() {
    Partarrows x = new Partarrows();
    x.number(0);
    dueHouse(x, 0, 0, 4, 0, 1, 0);
    x.power(0, 0, 12);
    dueHouse(x, 0, 0, 4, 0, 2, 0);
    x.box(0, 1);
    x.number(0);
    dueHouse(x, 1, 0, 4, 0, 2, 0);
  }

  private static void knocks() {
    Partarrows x = used();
    String before = x.house(0) + " " + x.house(1) + " " + x.house(2) + " " + x.house(3) + " " + x.house(4);
    for (int times = 2; times <= 100; times++) {
      due("knock()", x.knock(), times);
      due("house(5)", x.house(5), times);
    }
    String behind = x.house(0) + " " + x.house(1) + " " + x.house(2) + " " + x.house(3) + " " + x.house(4);
    due("all the rest", behind, before);
    due("knock() of another one", new Partarrows().knock(), 1);
  }

  // ---- isSound

  private static void isSoundOfEmptyBoxes() {
    dueStill("isSound() of a new one", new Partarrows(), "true", x -> x.isSound());
    dueStill("isSound() of a used one", used(), "true", x -> x.isSound());
  }

  private static void isSoundOfNumbers() {
    int[] numbers = {MIN, MAX, 0, 5, NONE, REFUSED, MIN + 1, MAX - 1};
    for (int i = 0; i < numbers.length; i++) {
      Partarrows x = used();
      for (int box = 0; box < 4; box++) x.box(box, numbers[(i + box) % numbers.length]);
      dueStill("isSound() of numbers", x, "true", y -> y.isSound());
    }
  }

  private static void isSoundAtTheLimits() {
    dueStill("isSound() at the limits", atTheLimits(), "true", x -> x.isSound());
    Partarrows x = widest();
    for (int arrow = 0; arrow < 4; arrow++) x.copyArrow(arrow, 2);
    dueStill("isSound() of the widest in each place", x, "true", y -> y.isSound());
    due("house(4)", x.house(4), 0);
  }

  /** Twelve parts, none of which has an answer, so that all of them are asked. */
  private static void isSoundWithoutAnswers() {
    Partarrows x = new Partarrows();
    x.plain(0, VOID, 0);
    x.otherwise(0, 0, 0);
    x.otherwise(0, 0, 0);
    x.otherwise(1, 0, 0);
    x.otherwise(0, 1, 0);
    for (int arrow = 1; arrow < 4; arrow++) x.copyArrow(arrow, 0);
    due("parts()", x.parts(3), 12);
    dueStill("isSound() without answers", x, "true", y -> y.isSound());
  }

  private static void isSoundOfTable() {
    Partarrows x = new Partarrows();
    x.lay(0, 6);
    x.lay(6, 0);
    x.plain(0, TABLE, 0);
    x.plain(1, OVER, MIN);
    x.then(2, 0, 1);
    x.otherwise(3, 2, 0);
    dueStill("isSound() of a table", x, "true", y -> y.isSound());
  }

  // ---- digest

  private static long mix(long d, long v) {
    return d * 31 + v;
  }

  private static long mix(long d, String signs) {
    long mixed = d;
    for (char sign : signs.toCharArray()) mixed = mix(mixed, sign);
    return mixed;
  }

  /** What digest() is of an object with these keys, as the document puts it; the object is used up. */
  private static long dueDigest(Partarrows x, Integer... keys) {
    long d = 7841;
    for (int what = 0; what < 6; what++) d = mix(d, x.house(what));
    for (int box = 0; box < 4; box++) d = mix(mix(d, x.isThere(box) ? 1 : 0), x.orElse(box, 0));
    for (int key = 0; key < 10; key++) {
      boolean isThere = key < keys.length && keys[key] != null;
      d = mix(mix(d, isThere ? 1 : 0), isThere ? keys[key] : 0);
    }
    d = mix(mix(d, x.traced()), x.trace());
    for (int arrow = 0; arrow < 4; arrow++) {
      d = mix(mix(mix(d, x.parts(arrow)), x.deep(arrow)), x.text(arrow));
      for (int number : new int[] {-1, 0, 6}) d = mix(d, x.ask(arrow, number));
    }
    return mix(d, x.isSound() ? 1 : 0);
  }

  private static void digestAtFirst() {
    due("digest()", new Partarrows().digest(), dueDigest(new Partarrows()));
    // By hand: 6 numbers of the house, 28 of the boxes and the keys, and how many marks there are.
    int[] numbers = new int[6 + 28 + 1];
    numbers[2] = 4;
    long d = 7841;
    for (int number : numbers) d = mix(d, number);
    for (int arrow = 0; arrow < 4; arrow++) d = mix(mix(mix(d, 1), 1), "unit-106");
    due("digest() by hand", new Partarrows().digest(), mix(d, 1));
  }

  private static void digestOfUsed() {
    due("digest()", used().digest(), dueDigest(used(), null, null, 7, null, null, null, null, null, null, -3));
  }

  private static void digestAtTheLimits() {
    long want = dueDigest(atTheLimits(), null, null, 7, null, null, null, null, null, null, -3);
    due("digest()", atTheLimits().digest(), want);
    due("digest() of the widest", askedWidest().digest(), dueDigest(askedWidest()));
  }

  private static Partarrows askedWidest() {
    Partarrows x = widest();
    x.ask(2, MIN);
    return x;
  }

  private static Partarrows bothEnds() {
    Partarrows x = new Partarrows();
    int[] numbers = {MIN, MAX, NONE, 0};
    for (int box = 0; box < 4; box++) x.box(box, numbers[box]);
    for (int key = 0; key < 10; key++) x.lay(key, numbers[key % 4]);
    x.visit(0);
    x.plain(0, TABLE, 0);
    x.plain(1, VOID, 0);
    x.plain(2, OVER, MIN);
    x.plain(3, JUST, MAX);
    x.ask(2, -1);
    return x;
  }

  private static void digestOfBothEnds() {
    due("digest()", bothEnds().digest(), dueDigest(bothEnds(), MIN, MAX, -1, 0, MIN, MAX, -1, 0, MIN, MAX));
  }

  private static void digestTells(String what, Call call) {
    Partarrows x = used();
    long before = x.digest();
    call.of(x);
    due("whether digest() tells " + what, x.digest() != before, true);
  }

  private static void digestTellsAll() {
    digestTells("a number 0 from none", x -> x.box(3, 0));
    digestTells("another number", x -> x.box(0, 6));
    digestTells("a box that is empty", x -> x.none(0));
    digestTells("a key with 0 from none", x -> x.lay(8, 0));
    digestTells("another number of a key", x -> x.lay(9, -4));
    digestTells("a key without one", x -> x.lift(9));
    digestTells("VISITED", x -> x.visit(1));
    digestTells("what is counted", x -> x.number(3));
    digestTells("who knocked", x -> x.knock());
    digestTells("TRACE", x -> x.ask(3, 8));
    digestTells("a TRACE of none", x -> x.map(3, 0, 0));
    digestTells("another n", x -> x.plain(0, ADD, 4));
    digestTells("another kind", x -> x.plain(0, BELOW, 3));
    digestTells("an arrow that is made", x -> x.then(0, 0, 0));
  }

  private static void digestKeeps() {
    Partarrows x = used();
    String before = allSeen(x);
    long first = x.digest();
    for (int times = 0; times < 10; times++) due("digest() again", x.digest(), first);
    due("what is seen then", allSeen(x), before);
  }

  // ---- 512 calls

  private static void callsOf(String what, Call call, Object want) {
    Partarrows x = new Partarrows();
    for (int times = 1; times < CALLS; times++) call.of(x);
    due("the call " + CALLS + " of " + what, call.of(x), want);
  }

  private static void lastCallOfMany() {
    callsOf("knock()", x -> x.knock(), CALLS);
    callsOf("number()", x -> x.number(0), "!");
    callsOf("power()", x -> x.power(0, 0, 12), REFUSED);
    callsOf("ask()", x -> x.ask(0, MIN), "" + MIN);
    callsOf("trace()", x -> x.trace(), "");
    callsOf("isSound()", x -> x.isSound(), true);
    callsOf("digest()", x -> x.digest(), dueDigest(new Partarrows()));
  }

  private static void countsOfMany() {
    Partarrows x = new Partarrows();
    for (int times = 1; times < CALLS; times++) x.number(0);
    due("house(4) behind 511 of number()", x.house(4), CALLS - 1);
    Partarrows y = new Partarrows();
    for (int times = 1; times < CALLS; times++) y.power(0, 0, 12);
    due("house(4) behind 511 of power()", y.house(4), CALLS - 1);
    Partarrows z = new Partarrows();
    for (int times = 1; times < CALLS; times++) z.visitElse(0);
    due("house(3) behind 511 of visitElse()", z.house(3), 1 - CALLS);
  }

  /** Arrows that are made of others, as often as may be. */
  private static void madeOfMany() {
    Partarrows x = new Partarrows();
    x.plain(0, ADD, 1);
    for (int call = 2; call <= CALLS - 6; call += 3) {
      due("then()", x.then(1, 0, 0), 2);
      due("otherwise()", x.otherwise(2, 1, 0), 3);
      due("copyArrow()", x.copyArrow(3, 2), 3);
    }
    due("ask()", x.ask(3, 1), "3");
    due("trace()", x.trace(), "a2:1 a2:2");
  }

  public static void main(String[] args) {
    test("-9: nothing changes, but that it is counted", WholeEdgesTest::refusedIsCounted);
    test("-9: what is let behind that", WholeEdgesTest::refusedThenLet);
    test("-9: a NUMBER -9 is not refused", WholeEdgesTest::numbersAreNotCounted);
    test("a method that throws an exception changes nothing", WholeEdgesTest::throwsIsNotCounted);
    test("Promise 40: at first", WholeEdgesTest::houseAtFirst);
    test("Promise 40: 0 how many BOXES have a NUMBER", WholeEdgesTest::houseOfBoxes);
    test("Promise 40: 1 KEYS of the TABLE that have one", WholeEdgesTest::houseOfKeys);
    test("Promise 40: 2 PARTS of all ARROWS", WholeEdgesTest::houseOfParts);
    test("Promise 40: 3 VISITED", WholeEdgesTest::houseOfVisited);
    test("Promise 40: 4 how often -9 or \"!\" was told", WholeEdgesTest::houseOfTold);
    test("Promises 40 and 41: 5 how often one knocked", WholeEdgesTest::knocks);
    test("Promise 42: or it is EMPTY and orElse() tells that", WholeEdgesTest::isSoundOfEmptyBoxes);
    test("Promise 42: its NUMBER is what orElse() tells", WholeEdgesTest::isSoundOfNumbers);
    test("Promise 42: of each three ARROWS, with more PARTS", WholeEdgesTest::isSoundAtTheLimits);
    test("Promise 42: one or another one, without answers", WholeEdgesTest::isSoundWithoutAnswers);
    test("Promise 42: of each ARROW and the numbers -1, 0 and 6", WholeEdgesTest::isSoundOfTable);
    test("Promise 43: of a new object", WholeEdgesTest::digestAtFirst);
    test("Promise 43: for each v in this order", WholeEdgesTest::digestOfUsed);
    test("Promise 43: of 12 PARTS, 6 deep, and of 28 MARKS", WholeEdgesTest::digestAtTheLimits);
    test("Promise 43: wraps around; numbers at both ends", WholeEdgesTest::digestOfBothEnds);
    test("Promise 43: each of what it is made of", WholeEdgesTest::digestTellsAll);
    test("Promise 43: (TRACE stays)", WholeEdgesTest::digestKeeps);
    test("An object is used for at most 512 calls: the last one", WholeEdgesTest::lastCallOfMany);
    test("An object is used for at most 512 calls: what is counted", WholeEdgesTest::countsOfMany);
    test("An object is used for at most 512 calls: what is made", WholeEdgesTest::madeOfMany);
    end();
  }
}
