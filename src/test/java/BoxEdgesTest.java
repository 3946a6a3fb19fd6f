/** The edges of the description's part 1 and of the promises 1 to 12: a test for each sentence. */
public final class BoxEdgesTest extends Check {
  private static final int[] NUMBERS = {0, 1, NONE, REFUSED, 100000, MAX, MIN};

  /** Box 0 has MIN, box 1 has MAX, box 2 and box 3 are empty. */
  private static Partarrows bothEnds() {
    Partarrows x = new Partarrows();
    x.box(0, MIN);
    x.box(1, MAX);
    return x;
  }

  private static void dueBox(Partarrows x, int box, String want) {
    due("isThere(" + box + ")", x.isThere(box), !want.isEmpty());
    due("isEmpty(" + box + ")", x.isEmpty(box), want.isEmpty());
    if (!want.isEmpty()) due("number(" + box + ")", x.number(box), want);
  }

  private static void dueBoxes(Partarrows x, String... wants) {
    for (int box = 0; box < wants.length; box++) dueBox(x, box, wants[box]);
  }

  // ---- promise 1

  private static void fourEmptyBoxes() {
    Partarrows x = new Partarrows();
    dueBoxes(x, "", "", "", "");
    due("house(0)", x.house(0), 0);
  }

  private static void fourUnits() {
    for (int arrow = 0; arrow < 4; arrow++) {
      Partarrows x = new Partarrows();
      due("text()", x.text(arrow), "unit");
      due("parts()", x.parts(arrow), 1);
      due("deep()", x.deep(arrow), 1);
      due("ask() of MIN", x.ask(arrow, MIN), "" + MIN);
      due("ask() of MAX", x.ask(arrow, MAX), "" + MAX);
    }
  }

  private static void emptyTable() {
    Partarrows x = new Partarrows();
    due("house(1)", x.house(1), 0);
    x.plain(0, TABLE, 0);
    for (int key = 0; key < 10; key++) {
      due("ask() of " + key, x.ask(0, key), "");
      due("lift() of " + key, x.lift(key), 0);
    }
  }

  private static void ofItsOwn() {
    Partarrows x = used();
    Partarrows y = new Partarrows();
    due("the digest beside a used one", y.digest(), new Partarrows().digest());
    y.box(0, 3);
    y.plain(0, VOID, 0);
    y.lay(2, 1);
    due("a box of another object", x.number(0), "5");
    due("an arrow of another object", x.text(0), "add3");
    due("a key of another object", x.ask(1, 2), "7");
  }

  // ---- the description

  private static void anyNumber() {
    for (int box = 0; box < 4; box++) {
      for (int number : NUMBERS) {
        Partarrows x = new Partarrows();
        due("box()", x.box(box, number), 1);
        dueBox(x, box, "" + number);
        due("orElse()", x.orElse(box, 77), number);
        due("house(0)", x.house(0), 1);
        due("house(4)", x.house(4), 0);
      }
    }
  }

  private static void alikeNumbers() {
    for (int number : NUMBERS) {
      for (int other : NUMBERS) {
        Partarrows x = new Partarrows();
        x.box(0, number);
        x.box(3, other);
        due(number + " and " + other, x.areAlike(0, 3), number == other);
        due(other + " and " + number, x.areAlike(3, 0), number == other);
      }
    }
  }

  private static void alikeEmpty() {
    Partarrows x = new Partarrows();
    due("two never filled", x.areAlike(0, 3), true);
    x.box(0, 5);
    x.none(0);
    due("one never filled and one made empty", x.areAlike(3, 0), true);
    x.maybe(1, 6, false);
    due("two made empty", x.areAlike(0, 1), true);
    for (int number : NUMBERS) {
      x.box(2, number);
      due(number + " and an empty one", x.areAlike(2, 3), false);
      due("an empty one and " + number, x.areAlike(3, 2), false);
    }
  }

  private static void visitedAtFirst() {
    Partarrows x = new Partarrows();
    due("house(3) at first", x.house(3), 0);
    x.visit(0);
    due("house(3) behind visit() of an empty one", x.house(3), 0);
  }

  private static void visitedAnyNumber() {
    for (int number : NUMBERS) {
      Partarrows x = new Partarrows();
      x.box(1, number);
      x.visit(1);
      due("house(3) behind visit() of " + number, x.house(3), number);
    }
  }

  // ---- promises 2 to 5

  private static void boxTellsEmpty() {
    for (int number : NUMBERS) {
      Partarrows x = new Partarrows();
      due("box() of one never filled", x.box(2, number), 1);
      due("box() of one with " + number, x.box(2, 5), 0);
      x.none(2);
      due("box() of one made empty", x.box(2, number), 1);
      due("box() of the same number again", x.box(2, number), 0);
    }
  }

  private static void boxAlone() {
    Partarrows x = bothEnds();
    x.box(3, 4);
    dueBoxes(x, "" + MIN, "" + MAX, "", "4");
    x.box(0, 9);
    dueBoxes(x, "9", "" + MAX, "", "4");
  }

  private static void maybeThere() {
    for (int number : NUMBERS) {
      Partarrows x = new Partarrows();
      due("maybe() of an empty one", x.maybe(3, number, true), 1);
      dueBox(x, 3, "" + number);
      due("maybe() of a full one", x.maybe(3, 12, true), 0);
      dueBox(x, 3, "12");
    }
  }

  private static void maybeNotThere() {
    for (int number : NUMBERS) {
      Partarrows x = new Partarrows();
      due("maybe() of an empty one", x.maybe(3, number, false), 1);
      dueBox(x, 3, "");
      x.box(3, number);
      due("maybe() of a full one", x.maybe(3, number, false), 0);
      dueBox(x, 3, "");
      due("maybe() of an empty one again", x.maybe(3, number, false), 1);
      dueBox(x, 3, "");
    }
  }

  private static void noneOfFull() {
    for (int number : NUMBERS) {
      Partarrows x = new Partarrows();
      x.box(3, number);
      due("none() of " + number, x.none(3), 0);
      dueBox(x, 3, "");
    }
    Partarrows y = bothEnds();
    y.none(0);
    dueBoxes(y, "", "" + MAX, "", "");
  }

  private static void noneOfEmpty() {
    Partarrows x = bothEnds();
    due("none() of an empty one", x.none(3), 1);
    due("none() again", x.none(3), 1);
    dueBoxes(x, "" + MIN, "" + MAX, "", "");
    due("it is not counted", x.house(4), 0);
  }

  private static void copyOfAnother() {
    Partarrows x = bothEnds();
    due("copy() of MAX over MIN", x.copy(0, 1), 0);
    dueBoxes(x, "" + MAX, "" + MAX, "", "");
    due("copy() of the same number", x.copy(0, 1), 1);
    due("copy() over an empty one", x.copy(3, 1), 0);
    dueBoxes(x, "" + MAX, "" + MAX, "", "" + MAX);
  }

  private static void copyOfEmpty() {
    Partarrows x = bothEnds();
    due("copy() of an empty one over another", x.copy(2, 3), 1);
    dueBoxes(x, "" + MIN, "" + MAX, "", "");
    due("copy() of an empty one over MIN", x.copy(0, 3), 0);
    dueBoxes(x, "", "" + MAX, "", "");
    x.box(0, 0);
    due("copy() of an empty one over 0", x.copy(0, 3), 0);
    dueBoxes(x, "", "" + MAX, "", "");
  }

  private static void copyOfItself() {
    Partarrows x = bothEnds();
    due("copy() of a full one and itself", x.copy(0, 0), 1);
    due("copy() of an empty one and itself", x.copy(3, 3), 1);
    dueBoxes(x, "" + MIN, "" + MAX, "", "");
  }

  private static void copyAsItIsNow() {
    Partarrows x = bothEnds();
    x.copy(2, 0);
    x.box(0, 4);
    dueBoxes(x, "4", "" + MAX, "" + MIN, "");
    x.copy(3, 1);
    x.none(3);
    dueBoxes(x, "4", "" + MAX, "" + MIN, "");
  }

  // ---- promises 6 to 10

  private static void isThereOfEach() {
    for (int number : NUMBERS) {
      Partarrows x = new Partarrows();
      due("isThere() of one never filled", x.isThere(3), false);
      x.box(3, number);
      due("isThere() of " + number, x.isThere(3), true);
      due("isThere() of another one", x.isThere(2), false);
      x.none(3);
      due("isThere() of one made empty", x.isThere(3), false);
    }
  }

  private static void isEmptyOfEach() {
    for (int number : NUMBERS) {
      Partarrows x = new Partarrows();
      due("isEmpty() of one never filled", x.isEmpty(3), true);
      x.box(3, number);
      due("isEmpty() of " + number, x.isEmpty(3), false);
      due("isEmpty() of another one", x.isEmpty(2), true);
      x.none(3);
      due("isEmpty() of one made empty", x.isEmpty(3), true);
    }
  }

  private static void numberByDigits() {
    int[] numbers = {0, 7, 10, -1, -9, -10, 1000000000, MAX - 1, MAX, MIN + 1, MIN};
    String[] texts = {
      "0", "7", "10", "-1", "-9", "-10", "1000000000", "2147483646", "2147483647", "-2147483647",
      "-2147483648",
    };
    for (int i = 0; i < numbers.length; i++) {
      Partarrows x = new Partarrows();
      x.box(3, numbers[i]);
      dueStill("number() of " + numbers[i], x, texts[i], y -> y.number(3));
    }
  }

  private static void numberOfEmpty() {
    Partarrows x = used();
    String before = seen(x);
    due("number() of one never filled", x.number(3), "!");
    due("house(4)", x.house(4), 2);
    x.none(0);
    due("number() of one made empty", x.number(0), "!");
    due("house(4)", x.house(4), 3);
    x.box(0, 5);
    due("all the rest", seen(x), before);
  }

  private static void orElseOfEmpty() {
    for (int other : NUMBERS) {
      dueStill("orElse() of an empty one", new Partarrows(), "" + other, x -> x.orElse(3, other));
    }
  }

  private static void orElseOfFull() {
    for (int number : NUMBERS) {
      for (int other : new int[] {MIN, NONE, 0, MAX}) {
        Partarrows x = new Partarrows();
        x.box(3, number);
        dueStill("orElse() of " + number, x, "" + number, y -> y.orElse(3, other));
      }
    }
  }

  private static void areAlikeItself() {
    dueStill("areAlike() of a full one and itself", bothEnds(), "true", x -> x.areAlike(0, 0));
    dueStill("areAlike() of an empty one and itself", bothEnds(), "true", x -> x.areAlike(3, 3));
    dueStill("areAlike() of both ends", bothEnds(), "false", x -> x.areAlike(0, 1));
  }

  // ---- promises 11 and 12

  private static void visitOfFull() {
    for (int number : NUMBERS) {
      Partarrows x = bothEnds();
      x.visit(1);
      x.box(3, number);
      due("visit() of " + number, x.visit(3), 1);
      due("house(3)", x.house(3), number);
      dueBox(x, 3, "" + number);
    }
  }

  private static void visitOfEmpty() {
    for (int number : NUMBERS) {
      Partarrows x = new Partarrows();
      x.box(0, number);
      x.visit(0);
      due("visit() of an empty one", x.visit(3), 0);
      due("house(3) stays", x.house(3), number);
      dueBox(x, 3, "");
      x.none(0);
      due("visit() of one made empty", x.visit(0), 0);
      due("house(3) stays", x.house(3), number);
      due("it is not counted", x.house(4), 0);
    }
  }

  private static void visitElseOfFull() {
    for (int number : NUMBERS) {
      Partarrows x = bothEnds();
      x.visit(1);
      x.box(3, number);
      due("visitElse() of " + number, x.visitElse(3), 1);
      due("house(3)", x.house(3), number);
      dueBox(x, 3, "" + number);
    }
  }

  private static void visitElseOfEmpty() {
    int[] froms = {0, 1, -8, MAX, MIN + 1};
    int[] tos = {-1, 0, -9, MAX - 1, MIN};
    for (int i = 0; i < froms.length; i++) {
      Partarrows x = new Partarrows();
      x.box(0, froms[i]);
      x.visit(0);
      due("visitElse() of an empty one", x.visitElse(3), 0);
      due("house(3) behind " + froms[i], x.house(3), tos[i]);
      dueBox(x, 3, "");
      due("it is not counted", x.house(4), 0);
    }
  }

  private static void visitElseGoesRound() {
    Partarrows x = bothEnds();
    x.visit(0);
    due("visitElse() of an empty one", x.visitElse(3), 0);
    due("house(3)", x.house(3), MAX);
    due("visitElse() again", x.visitElse(3), 0);
    due("house(3)", x.house(3), MAX - 1);
  }

  /** A full one among empty ones, and an empty one among full ones, in each place. */
  private static void visitOfThatBox() {
    for (int box = 0; box < 4; box++) {
      for (int other = 0; other < 4; other++) {
        Partarrows x = new Partarrows();
        x.box(box, 40 + box);
        due("visit() of " + other, x.visit(other), other == box ? 1 : 0);
        due("house(3)", x.house(3), other == box ? 40 + box : 0);
        due("visitElse() of " + other, x.visitElse(other), other == box ? 1 : 0);
        due("house(3)", x.house(3), other == box ? 40 + box : -1);
        for (int full = 0; full < 4; full++) x.box(full, 50 + full);
        x.none(box);
        x.visit(other);
        due("house(3) behind visit()", x.house(3), other == box ? 40 + box : 50 + other);
        x.visitElse(other);
        due("house(3) behind visitElse()", x.house(3), other == box ? 39 + box : 50 + other);
      }
    }
  }

  public static void main(String[] args) {
    test("Promise 1: creates four EMPTY BOXES", BoxEdgesTest::fourEmptyBoxes);
    test("Promise 1: four ARROWS that are UNIT", BoxEdgesTest::fourUnits);
    test("Promise 1: and an empty TABLE", BoxEdgesTest::emptyTable);
    test("Promise 1: an object shares nothing with another one", BoxEdgesTest::ofItsOwn);
    test("1. Boxes: a BOX has a NUMBER (any one)", BoxEdgesTest::anyNumber);
    test("1. Boxes: two are ALIKE, if they have the same NUMBER", BoxEdgesTest::alikeNumbers);
    test("1. Boxes: or both are EMPTY", BoxEdgesTest::alikeEmpty);
    test("1. Boxes: VISITED is 0 at first", BoxEdgesTest::visitedAtFirst);
    test("1. Boxes: VISITED is any number", BoxEdgesTest::visitedAnyNumber);
    test("Promise 2: returns 1 if it was EMPTY, otherwise 0", BoxEdgesTest::boxTellsEmpty);
    test("Promise 2: a BOX has a NUMBER", BoxEdgesTest::boxAlone);
    test("Promise 3: a BOX has a NUMBER", BoxEdgesTest::maybeThere);
    test("Promise 3: or is EMPTY", BoxEdgesTest::maybeNotThere);
    test("Promise 4: a BOX becomes EMPTY; returns otherwise 0", BoxEdgesTest::noneOfFull);
    test("Promise 4: returns 1 if it was EMPTY", BoxEdgesTest::noneOfEmpty);
    test("Promise 5: a BOX becomes as another one; whether ALIKE ahead", BoxEdgesTest::copyOfAnother);
    test("Promise 5: becomes as another one that is EMPTY", BoxEdgesTest::copyOfEmpty);
    test("Promise 5: (or the same)", BoxEdgesTest::copyOfItself);
    test("Promise 5: as another one is now", BoxEdgesTest::copyAsItIsNow);
    test("Promise 6: whether it has a NUMBER", BoxEdgesTest::isThereOfEach);
    test("Promise 7: whether it is EMPTY", BoxEdgesTest::isEmptyOfEach);
    test("Promise 8: its NUMBER by its digits", BoxEdgesTest::numberByDigits);
    test("Promise 8: \"!\" if it is EMPTY (that is counted)", BoxEdgesTest::numberOfEmpty);
    test("Promise 9: that other one if it is EMPTY", BoxEdgesTest::orElseOfEmpty);
    test("Promise 9: its NUMBER", BoxEdgesTest::orElseOfFull);
    test("Promise 10: whether both are ALIKE", BoxEdgesTest::areAlikeItself);
    test("Promise 11: VISITED becomes that", BoxEdgesTest::visitOfFull);
    test("Promise 11: if a BOX has a NUMBER, otherwise 0", BoxEdgesTest::visitOfEmpty);
    test("Promises 11 and 12: that BOX, and no other one", BoxEdgesTest::visitOfThatBox);
    test("Promise 12: VISITED becomes that", BoxEdgesTest::visitElseOfFull);
    test("Promise 12: otherwise it becomes 1 less", BoxEdgesTest::visitElseOfEmpty);
    test("Promise 12: from -2147483648 it goes to 2147483647", BoxEdgesTest::visitElseGoesRound);
    end();
  }
}
