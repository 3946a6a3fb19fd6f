/** The edges of the description's part 2 and of the promises 13 to 18: a test for each sentence. */
public final class MapEdgesTest extends Check {
  private static final int[] ANY_N = {MIN, -1, 0, 1, 2, MAX};

  /** Arrow 0 is UNIT, 1 is HALF, 2 is VOID, 3 is JUST -1; TRACE has a mark, box 3 has 4. */
  private static Partarrows asked() {
    Partarrows x = new Partarrows();
    x.plain(1, HALF, 0);
    x.plain(2, VOID, 0);
    x.plain(3, JUST, NONE);
    x.box(3, 4);
    x.ask(1, 1);
    return x;
  }

  private static void dueBox(Partarrows x, int box, String want) {
    due("isEmpty(" + box + ")", x.isEmpty(box), want.isEmpty());
    if (!want.isEmpty()) due("number(" + box + ")", x.number(box), want);
  }

  private static void dueTrace(Partarrows x, String want) {
    due("trace()", x.trace(), want);
    due("traced()", x.traced(), want.isEmpty() ? 0 : want.split(" ").length);
  }

  /** A box goes through a map, and so does the answer of an arrow. */
  private static void dueMap(int number, int map, int n, String want) {
    String mark = "m" + map + ":" + number;
    String what = number + " through the map " + map + " with " + n;
    Partarrows x = asked();
    x.box(0, number);
    due(what, x.map(0, map, n), want.isEmpty() ? 0 : 1);
    dueBox(x, 0, want);
    dueBox(x, 3, "4");
    dueTrace(x, mark);
    x.mapped(1, 0, map, n);
    due(what + " of an arrow", x.ask(1, number), want);
    dueTrace(x, mark);
  }

  /** A box is tested, and so is what an arrow is asked with. */
  private static void dueTest(int number, int test, int n, boolean isSo) {
    String mark = "t" + test + ":" + number;
    String want = isSo ? "" + number : "";
    String what = number + " tested by " + test + " with " + n;
    Partarrows x = asked();
    x.box(0, number);
    due(what, x.filter(0, test, n), isSo ? 1 : 0);
    dueBox(x, 0, want);
    dueBox(x, 3, "4");
    dueTrace(x, mark);
    x.when(1, test, n, 0);
    due(what + " of an arrow", x.ask(1, number), want);
    dueTrace(x, mark);
  }

  // ---- maps

  private static void plus() {
    dueMap(5, PLUS, -7, "-2");
    dueMap(MIN, PLUS, 0, "" + MIN);
    dueMap(MAX - 1, PLUS, 1, "" + MAX);
    dueMap(MIN + 1, PLUS, -1, "" + MIN);
  }

  private static void plusGoesRound() {
    dueMap(MAX, PLUS, 1, "" + MIN);
    dueMap(MIN, PLUS, -1, "" + MAX);
    dueMap(1, PLUS, MAX, "" + MIN);
    dueMap(MAX, PLUS, MAX, "-2");
    dueMap(MIN, PLUS, MIN, "0");
  }

  private static void times() {
    dueMap(-5, TIMES, 7, "-35");
    dueMap(MIN, TIMES, 1, "" + MIN);
    dueMap(MAX, TIMES, -1, "" + (MIN + 1));
    dueMap(MAX, TIMES, 0, "0");
    dueMap(32768, TIMES, 65535, "2147450880");
    dueMap(-32768, TIMES, 65536, "" + MIN);
  }

  private static void timesGoesRound() {
    dueMap(32768, TIMES, 65536, "" + MIN);
    dueMap(65536, TIMES, 65536, "0");
    dueMap(MIN, TIMES, -1, "" + MIN);
    dueMap(MIN, TIMES, 2, "0");
    dueMap(MAX, TIMES, MAX, "1");
    dueMap(MAX, TIMES, 2, "-2");
    dueMap(MIN, TIMES, MIN, "0");
    dueMap(46341, TIMES, 46341, "-2147479015");
  }

  private static void turn() {
    dueMap(5, TURN, 3, "-2");
    dueMap(3, TURN, 5, "2");
    dueMap(MAX, TURN, -1, "" + MIN);
    dueMap(MIN, TURN, -1, "" + MAX);
    dueMap(MIN, TURN, MIN, "0");
  }

  private static void turnGoesRound() {
    dueMap(MIN, TURN, 0, "" + MIN);
    dueMap(MAX, TURN, -2, "" + MAX);
    dueMap(1, TURN, MIN, "" + MAX);
    dueMap(-1, TURN, MAX, "" + MIN);
    dueMap(MIN, TURN, MAX, "-1");
    dueMap(MAX, TURN, MIN, "1");
  }

  private static void halveEven() {
    dueMap(0, HALVE, 0, "0");
    dueMap(2, HALVE, 0, "1");
    dueMap(-2, HALVE, 0, "-1");
    dueMap(MAX - 1, HALVE, 0, "1073741823");
    dueMap(MIN, HALVE, 0, "-1073741824");
  }

  private static void halveOdd() {
    dueMap(1, HALVE, 0, "");
    dueMap(-1, HALVE, 0, "");
    dueMap(3, HALVE, 0, "");
    dueMap(-3, HALVE, 0, "");
    dueMap(MAX, HALVE, 0, "");
    dueMap(MIN + 1, HALVE, 0, "");
  }

  private static void halveWithoutN() {
    for (int n : ANY_N) {
      dueMap(-10, HALVE, n, "-5");
      dueMap(7, HALVE, n, "");
    }
  }

  private static void mapOfEmpty() {
    for (int map = 0; map < 4; map++) {
      for (int n : ANY_N) {
        Partarrows x = asked();
        due("map() of an empty one", x.map(0, map, n), 0);
        dueBox(x, 0, "");
        dueTrace(x, "");
        due("house(4)", x.house(4), 0);
      }
    }
  }

  private static void mapTwice() {
    Partarrows x = asked();
    due("map() of 4", x.map(3, PLUS, 3), 1);
    due("map() of 7", x.map(3, HALVE, 0), 0);
    dueBox(x, 3, "");
    dueTrace(x, "m3:7");
    due("map() of one that has no answer any more", x.map(3, PLUS, 1), 0);
    dueTrace(x, "");
  }

  // ---- tests

  private static void even() {
    for (int number : new int[] {0, 2, -2, 10, MAX - 1, MIN}) dueTest(number, EVEN, 0, true);
    for (int number : new int[] {1, -1, 3, -3, MAX, MIN + 1}) dueTest(number, EVEN, 0, false);
  }

  private static void evenWithoutN() {
    for (int n : ANY_N) {
      dueTest(4, EVEN, n, true);
      dueTest(5, EVEN, n, false);
    }
  }

  private static void isBelow() {
    for (int n : new int[] {MIN + 1, -1, 0, 1, 9, MAX - 1}) {
      dueTest(n - 1, IS_BELOW, n, true);
      dueTest(n, IS_BELOW, n, false);
      dueTest(n + 1, IS_BELOW, n, false);
      dueTest(MIN, IS_BELOW, n, true);
      dueTest(MAX, IS_BELOW, n, false);
    }
  }

  private static void isBelowBothEnds() {
    dueTest(MIN, IS_BELOW, MIN, false);
    dueTest(MAX, IS_BELOW, MIN, false);
    dueTest(MIN, IS_BELOW, MAX, true);
    dueTest(MAX - 1, IS_BELOW, MAX, true);
    dueTest(MAX, IS_BELOW, MAX, false);
  }

  private static void unlike() {
    for (int n : new int[] {MIN + 1, -1, 0, 1, 100000, MAX - 1}) {
      dueTest(n - 1, UNLIKE, n, true);
      dueTest(n, UNLIKE, n, false);
      dueTest(n + 1, UNLIKE, n, true);
    }
    dueTest(MIN, UNLIKE, MIN, false);
    dueTest(MAX, UNLIKE, MAX, false);
    dueTest(MIN, UNLIKE, MAX, true);
    dueTest(MAX, UNLIKE, MIN, true);
    dueTest(MIN, UNLIKE, 0, true);
  }

  private static void filterOfEmpty() {
    for (int test = 0; test < 3; test++) {
      for (int n : ANY_N) {
        Partarrows x = asked();
        due("filter() of an empty one", x.filter(0, test, n), 0);
        dueBox(x, 0, "");
        dueTrace(x, "");
        due("house(4)", x.house(4), 0);
      }
    }
  }

  private static void filterTwice() {
    Partarrows x = asked();
    due("filter() of 4", x.filter(3, IS_BELOW, 5), 1);
    due("filter() of 4 again", x.filter(3, IS_BELOW, 5), 1);
    dueBox(x, 3, "4");
    due("filter() of 4 that is not so", x.filter(3, IS_BELOW, 4), 0);
    dueTrace(x, "t1:4");
    due("filter() of one made empty", x.filter(3, IS_BELOW, 5), 0);
    dueBox(x, 3, "");
    dueTrace(x, "");
  }

  // ---- bind, orBox

  private static void bindOfEmpty() {
    for (int arrow = 0; arrow < 4; arrow++) {
      Partarrows x = asked();
      due("bind() of an empty one to " + arrow, x.bind(0, arrow), 0);
      dueBox(x, 0, "");
      dueTrace(x, "");
    }
  }

  private static void bindOfFull() {
    for (int number : new int[] {MIN, -2, 0, MAX - 1}) {
      Partarrows x = asked();
      x.box(0, number);
      due("bind() of " + number, x.bind(0, 1), 1);
      dueBox(x, 0, "" + number / 2);
      dueTrace(x, "a3:" + number);
    }
    Partarrows y = asked();
    due("bind() to UNIT", y.bind(3, 0), 1);
    dueBox(y, 3, "4");
    dueTrace(y, "");
  }

  private static void bindWithoutAnswer() {
    for (int number : new int[] {MIN, 0, MAX}) {
      Partarrows x = asked();
      x.box(0, number);
      due("bind() of " + number, x.bind(0, 2), 0);
      dueBox(x, 0, "");
      dueTrace(x, "a1:" + number);
      due("bind() of one made empty", x.bind(0, 3), 0);
      dueBox(x, 0, "");
      dueTrace(x, "");
    }
  }

  private static void orBoxOfEmpty() {
    for (int number : new int[] {MIN, NONE, 0, MAX}) {
      Partarrows x = asked();
      x.box(3, number);
      due("orBox() of an empty one", x.orBox(0, 3), 1);
      dueBox(x, 0, "" + number);
      dueBox(x, 3, "" + number);
      dueTrace(x, "");
    }
  }

  private static void orBoxOfTwoEmpty() {
    Partarrows x = asked();
    due("orBox() of two empty ones", x.orBox(0, 1), 0);
    dueBox(x, 0, "");
    dueBox(x, 1, "");
    dueTrace(x, "");
  }

  private static void orBoxOfFull() {
    for (int number : new int[] {MIN, NONE, 0, MAX}) {
      Partarrows x = asked();
      x.box(0, number);
      due("orBox() of a full one with a full one", x.orBox(0, 3), 1);
      due("orBox() of a full one with an empty one", x.orBox(0, 2), 1);
      dueBox(x, 0, "" + number);
      dueBox(x, 3, "4");
      dueBox(x, 2, "");
      dueTrace(x, "");
    }
  }

  private static void orBoxOfItself() {
    Partarrows x = asked();
    due("orBox() of a full one and itself", x.orBox(3, 3), 1);
    dueBox(x, 3, "4");
    due("orBox() of an empty one and itself", x.orBox(0, 0), 0);
    dueBox(x, 0, "");
  }

  // ---- orArrow, orAsk

  private static void orArrowOfEmpty() {
    for (int number : new int[] {MIN, -2, 0, MAX - 1}) {
      Partarrows x = asked();
      due("orArrow() with " + number, x.orArrow(0, 1, number), 1);
      dueBox(x, 0, "" + number / 2);
      dueTrace(x, "a3:" + number);
    }
    Partarrows y = asked();
    due("orArrow() of UNIT", y.orArrow(0, 0, MAX), 1);
    dueBox(y, 0, "" + MAX);
    dueTrace(y, "");
  }

  private static void orArrowWithoutAnswer() {
    Partarrows x = asked();
    due("orArrow() of HALF with MAX", x.orArrow(0, 1, MAX), 0);
    dueBox(x, 0, "");
    dueTrace(x, "a3:" + MAX);
    due("orArrow() of VOID with MIN", x.orArrow(0, 2, MIN), 0);
    dueBox(x, 0, "");
    dueTrace(x, "a1:" + MIN);
  }

  private static void orArrowOfFull() {
    for (int arrow = 0; arrow < 4; arrow++) {
      Partarrows x = asked();
      due("orArrow() of a full one", x.orArrow(3, arrow, 10), 1);
      dueBox(x, 3, "4");
      dueTrace(x, "");
    }
    Partarrows y = asked();
    y.box(3, NONE);
    due("orArrow() of one with -1", y.orArrow(3, 1, 10), 1);
    dueBox(y, 3, "-1");
    dueTrace(y, "");
  }

  private static void orAskOfEmpty() {
    for (int number : new int[] {MIN, -2, 0, MAX - 1}) {
      Partarrows x = asked();
      due("orAsk() with " + number, x.orAsk(0, 1, number), number / 2);
      dueTrace(x, "a3:" + number);
    }
    Partarrows y = asked();
    due("orAsk() of UNIT with MIN", y.orAsk(0, 0, MIN), MIN);
    due("orAsk() of UNIT with MAX", y.orAsk(0, 0, MAX), MAX);
    dueTrace(y, "");
  }

  private static void orAskStays() {
    Partarrows x = asked();
    x.orAsk(0, 1, 6);
    dueBox(x, 0, "");
    x.orAsk(0, 2, 6);
    dueBox(x, 0, "");
    x.orAsk(3, 1, 6);
    dueBox(x, 3, "4");
    due("house(0)", x.house(0), 1);
  }

  private static void orAskNone() {
    Partarrows x = asked();
    due("orAsk() of HALF with MAX", x.orAsk(0, 1, MAX), NONE);
    dueTrace(x, "a3:" + MAX);
    due("orAsk() of VOID", x.orAsk(0, 2, 0), NONE);
    dueTrace(x, "a1:0");
    due("orAsk() of JUST -1", x.orAsk(0, 3, 0), NONE);
    dueTrace(x, "a7:0");
    due("it is not counted", x.house(4), 0);
  }

  private static void orAskOfFull() {
    for (int number : new int[] {MIN, NONE, REFUSED, 0, MAX}) {
      Partarrows x = asked();
      x.box(0, number);
      due("orAsk() of " + number, x.orAsk(0, 1, 10), number);
      due("orAsk() of " + number + " where there is no answer", x.orAsk(0, 2, 10), number);
      dueTrace(x, "");
      due("it is not counted", x.house(4), 0);
    }
  }

  public static void main(String[] args) {
    test("2. Maps: 0 PLUS: x and n", MapEdgesTest::plus);
    test("2. Maps: PLUS wraps around", MapEdgesTest::plusGoesRound);
    test("2. Maps: 1 TIMES: x times n", MapEdgesTest::times);
    test("2. Maps: TIMES wraps around", MapEdgesTest::timesGoesRound);
    test("2. Maps: 2 TURN: n less x", MapEdgesTest::turn);
    test("2. Maps: TURN wraps around", MapEdgesTest::turnGoesRound);
    test("2. Maps: 3 HALVE: x / 2, if x is even", MapEdgesTest::halveEven);
    test("2. Maps: HALVE: otherwise it has no answer", MapEdgesTest::halveOdd);
    test("2. Maps: HALVE (n does nothing)", MapEdgesTest::halveWithoutN);
    test("2. Maps: an EMPTY one stays so", MapEdgesTest::mapOfEmpty);
    test("2. Tests: 0 EVEN: x is even", MapEdgesTest::even);
    test("2. Tests: EVEN (n does nothing)", MapEdgesTest::evenWithoutN);
    test("2. Tests: 1 BELOW: x is less than n", MapEdgesTest::isBelow);
    test("2. Tests: BELOW at both ends", MapEdgesTest::isBelowBothEnds);
    test("2. Tests: 2 UNLIKE: x is not n", MapEdgesTest::unlike);
    test("Promise 13: the BOX is EMPTY, if the MAP has no answer", MapEdgesTest::mapTwice);
    test("Promise 14: a BOX that is EMPTY stays so", MapEdgesTest::filterOfEmpty);
    test("Promise 14: stays as it is if a TEST is so; otherwise EMPTY", MapEdgesTest::filterTwice);
    test("Promise 15: an EMPTY one stays so", MapEdgesTest::bindOfEmpty);
    test("Promise 15: asked with that, it becomes the answer", MapEdgesTest::bindOfFull);
    test("Promise 15: it becomes the answer that is EMPTY", MapEdgesTest::bindWithoutAnswer);
    test("Promise 16: if a BOX is EMPTY, it becomes as another one", MapEdgesTest::orBoxOfEmpty);
    test("Promise 16: as another one that is EMPTY", MapEdgesTest::orBoxOfTwoEmpty);
    test("Promise 16: one with a NUMBER stays", MapEdgesTest::orBoxOfFull);
    test("Promise 16: (or the same)", MapEdgesTest::orBoxOfItself);
    test("Promise 17: if a BOX is EMPTY, it becomes the answer", MapEdgesTest::orArrowOfEmpty);
    test("Promise 17: the answer that is EMPTY", MapEdgesTest::orArrowWithoutAnswer);
    test("Promise 17: otherwise nothing is asked", MapEdgesTest::orArrowOfFull);
    test("Promise 18: if it is EMPTY, that of the answer", MapEdgesTest::orAskOfEmpty);
    test("Promise 18: (the BOX stays)", MapEdgesTest::orAskStays);
    test("Promise 18: NONE if that is EMPTY, too", MapEdgesTest::orAskNone);
    test("Promise 18: the NUMBER of the BOX; asked just if EMPTY", MapEdgesTest::orAskOfFull);
    end();
  }
}
