/** What the tests of the project share: the numbers of the document, and what is held against it. */
abstract class Check {
  static final int MAX = 2147483647;
  static final int MIN = -2147483648;

  // The kinds of arrows.
  static final int UNIT = 0;
  static final int VOID = 1;
  static final int ADD = 2;
  static final int HALF = 3;
  static final int OVER = 4;
  static final int BELOW = 5;
  static final int TABLE = 6;
  static final int JUST = 7;

  // The kinds of maps.
  static final int PLUS = 0;
  static final int TIMES = 1;
  static final int TURN = 2;
  static final int HALVE = 3;

  // The kinds of tests; IS_BELOW, as the arrow BELOW has 5.
  static final int EVEN = 0;
  static final int IS_BELOW = 1;
  static final int UNLIKE = 2;

  static final int NONE = -1;
  static final int REFUSED = -9;

  // One broken promise may make hundreds of answers wrong.
  private static final int MOST_SHOWN = 50;

  interface Call {
    Object of(Partarrows x);
  }

  private static String sentence = "";
  private static int sentences = 0;
  private static int wrong = 0;

  /** Runs what holds one sentence of the document against the class. */
  static void test(String ofSentence, Runnable test) {
    sentence = ofSentence;
    sentences++;
    try {
      test.run();
    } catch (RuntimeException thrown) {
      due("the test", "throws " + thrown, "throws nothing");
    }
  }

  /** Ends the test, with exit code 1 if an answer was not the one that is due. */
  static void end() {
    System.out.println(wrong == 0 ? sentences + " sentences are as due" : wrong + " answers are not as due");
    if (wrong != 0) System.exit(1);
  }

  static void due(String what, Object got, Object want) {
    if (!want.equals(got)) {
      wrong++;
      if (wrong > MOST_SHOWN) return;
      System.out.println(sentence + ": " + what + " answered " + got + ", due is " + want);
    }
  }

  /** An object of which nothing is as it was at first; box 2 and box 3 are empty. */
  static Partarrows used() {
    Partarrows x = new Partarrows();
    x.box(0, 5);
    x.box(1, -8);
    x.lay(2, 7);
    x.lay(9, -3);
    x.plain(0, ADD, 3);
    x.plain(1, TABLE, 0);
    x.plain(2, HALF, 0);
    x.otherwise(3, 1, 2);
    x.visit(0);
    x.knock();
    x.number(3);
    x.ask(3, 6);
    return x;
  }

  /** Arrow 0 has just 12 parts and is 5 deep, 1 has 6 and is just 6 deep, 2 has 1, 3 has 4 and is 3 deep. */
  static Partarrows atTheLimits() {
    Partarrows x = used();
    x.plain(2, ADD, 1);
    x.power(1, 2, 6);
    x.then(3, 2, 2);
    x.then(3, 3, 3);
    x.then(0, 3, 3);
    x.then(0, 0, 3);
    return x;
  }

  /** The arrow within the limits that leaves the most marks, 28, is arrow 2; arrow 1 has 2 parts. */
  static Partarrows widest() {
    Partarrows x = new Partarrows();
    x.plain(0, ADD, 1);
    x.mapped(0, 0, PLUS, 0);
    x.copyArrow(1, 0);
    x.mapped(0, 0, PLUS, 0);
    x.then(1, 1, 1);
    x.then(2, 0, 1);
    x.then(2, 2, 2);
    x.then(2, 2, 2);
    return x;
  }

  /** As widest(), each of the 28 marks with the longest number, if arrow 2 is asked with MIN. */
  static Partarrows longest() {
    Partarrows x = new Partarrows();
    x.plain(0, JUST, MIN);
    x.when(0, UNLIKE, MAX, 0);
    x.copyArrow(1, 0);
    x.mapped(0, 0, TIMES, -1);
    x.then(1, 1, 1);
    x.then(2, 0, 1);
    x.then(2, 2, 2);
    x.then(2, 2, 2);
    return x;
  }

  /** All that can be seen of an object without changing it, but what is counted; it takes 28 calls. */
  static String seen(Partarrows x) {
    StringBuilder out = new StringBuilder();
    for (int box = 0; box < 4; box++) {
      out.append(x.isThere(box)).append(' ').append(x.orElse(box, 0)).append(' ');
    }
    for (int arrow = 0; arrow < 4; arrow++) {
      out.append(x.text(arrow)).append(' ').append(x.parts(arrow)).append(' ').append(x.deep(arrow)).append(' ');
    }
    for (int what : new int[] {0, 1, 2, 3, 5}) {
      out.append(x.house(what)).append(' ');
    }
    return out.append(x.traced()).append(' ').append(x.trace()).toString();
  }

  /** As seen(), with what is counted and what the digest tells of all the rest; it takes 30 calls. */
  static String allSeen(Partarrows x) {
    return seen(x) + " " + x.house(4) + " " + x.digest();
  }

  static String answer(Partarrows x, Call call) {
    try {
      return String.valueOf(call.of(x));
    } catch (RuntimeException thrown) {
      return "throws." + thrown.getClass().getSimpleName();
    }
  }

  /** A call on an object just made, which is to answer so and change nothing. */
  static void dueStill(String what, Partarrows x, String want, Call call) {
    String before = allSeen(x);
    due(what, answer(x, call), want);
    due("what is seen behind " + what, allSeen(x), before);
  }

  static void dueIndex(String what, Call call) {
    dueStill(what, used(), "throws.IndexOutOfBoundsException", call);
  }

  static void dueArgument(String what, Call call) {
    dueStill(what, used(), "throws.IllegalArgumentException", call);
  }

  /** As dueStill(), by few calls, for an object that goes on. */
  static void dueLook(Partarrows x, String what, Object want, Call call) {
    long before = x.digest();
    due(what, call.of(x), want);
    due("the digest behind " + what, x.digest(), before);
  }

  /** A call that is refused changes nothing, but that it is counted. */
  static void dueRefused(String what, Partarrows x, Call call) {
    String before = seen(x);
    int counted = x.house(4);
    due(what, call.of(x), REFUSED);
    due("how much is counted behind " + what, x.house(4), counted + 1);
    due("what is seen behind " + what, seen(x), before);
  }

  /** Below the first, above the last, and both ends of all numbers. */
  static int[] wrongPlaces(int many) {
    return new int[] {-1, many, MIN, MAX};
  }
}
