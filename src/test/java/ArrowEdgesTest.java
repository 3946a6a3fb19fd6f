/** The edges of the description's part 3 and of the promises 19 to 27 and 32 to 34. */
public final class ArrowEdgesTest extends Check {
  private static final int[] ANY = {MIN, MIN + 1, -9, -2, -1, 0, 1, 2, 9, 10, MAX - 1, MAX};

  private static void dueArrow(Partarrows x, int arrow, String text, int parts, int deep) {
    due("text(" + arrow + ")", x.text(arrow), text);
    due("parts(" + arrow + ")", x.parts(arrow), parts);
    due("deep(" + arrow + ")", x.deep(arrow), deep);
  }

  private static void dueAsk(Partarrows x, int arrow, int number, String want, String marks) {
    due(x.text(arrow) + " asked with " + number, x.ask(arrow, number), want);
    due("trace()", x.trace(), marks);
  }

  /** A plain arrow of this kind, in each place, with KEY 0 at 40 and KEY 9 at MIN. */
  private static void duePlain(int kind, int n, int number, String want) {
    Partarrows x = new Partarrows();
    x.lay(0, 40);
    x.lay(9, MIN);
    due("plain()", x.plain(3, kind, n), 1);
    dueAsk(x, 3, number, want, kind == UNIT ? "" : "a" + kind + ":" + number);
    due("house(4)", x.house(4), 0);
  }

  // ---- plain ones

  private static void unit() {
    for (int number : ANY) duePlain(UNIT, 3, number, "" + number);
  }

  private static void voids() {
    for (int number : ANY) duePlain(VOID, 3, number, "");
  }

  private static void addThatCanBeTold() {
    duePlain(ADD, 1, MAX - 1, "" + MAX);
    duePlain(ADD, -1, MIN + 1, "" + MIN);
    duePlain(ADD, MAX, 0, "" + MAX);
    duePlain(ADD, MIN, 0, "" + MIN);
    duePlain(ADD, MIN, MAX, "-1");
    duePlain(ADD, MAX, MIN, "-1");
    duePlain(ADD, 0, MAX, "" + MAX);
    duePlain(ADD, -5, 5, "0");
  }

  private static void addThatCanNotBeTold() {
    duePlain(ADD, 1, MAX, "");
    duePlain(ADD, -1, MIN, "");
    duePlain(ADD, MAX, 1, "");
    duePlain(ADD, MIN, -1, "");
    duePlain(ADD, MAX, MAX, "");
    duePlain(ADD, MIN, MIN, "");
  }

  private static void halfOfEven() {
    duePlain(HALF, 3, 0, "0");
    duePlain(HALF, 3, 2, "1");
    duePlain(HALF, 3, -2, "-1");
    duePlain(HALF, 3, MAX - 1, "1073741823");
    duePlain(HALF, 3, MIN, "-1073741824");
  }

  private static void halfOfOdd() {
    for (int number : new int[] {1, -1, 3, -3, MAX, MIN + 1}) duePlain(HALF, 3, number, "");
  }

  private static void overTowardsZero() {
    duePlain(OVER, 7, 2, "3");
    duePlain(OVER, -7, 2, "-3");
    duePlain(OVER, 7, -2, "-3");
    duePlain(OVER, -7, -2, "3");
    duePlain(OVER, 1, 2, "0");
    duePlain(OVER, -1, 2, "0");
    duePlain(OVER, MAX, MIN, "0");
    duePlain(OVER, MIN, MAX, "-1");
    duePlain(OVER, MIN, MIN, "1");
    duePlain(OVER, MAX, MAX, "1");
    duePlain(OVER, MAX, -1, "-2147483647");
    duePlain(OVER, MIN, 1, "" + MIN);
    duePlain(OVER, MIN, 2, "-1073741824");
    duePlain(OVER, 0, MIN, "0");
  }

  private static void overZero() {
    for (int n : ANY) duePlain(OVER, n, 0, "");
  }

  private static void overThatCanNotBeTold() {
    duePlain(OVER, MIN, -1, "");
    duePlain(OVER, MIN + 1, -1, "" + MAX);
    duePlain(OVER, MIN, -2, "1073741824");
  }

  private static void below() {
    for (int n : new int[] {MIN + 1, -1, 0, 1, 9, MAX - 1}) {
      duePlain(BELOW, n, n - 1, "" + (n - 1));
      duePlain(BELOW, n, n, "");
      duePlain(BELOW, n, n + 1, "");
      duePlain(BELOW, n, MIN, "" + MIN);
      duePlain(BELOW, n, MAX, "");
    }
  }

  private static void belowBothEnds() {
    duePlain(BELOW, MIN, MIN, "");
    duePlain(BELOW, MIN, MAX, "");
    duePlain(BELOW, MAX, MAX - 1, "" + (MAX - 1));
    duePlain(BELOW, MAX, MAX, "");
    duePlain(BELOW, MAX, MIN, "" + MIN);
  }

  private static void tableKeys() {
    duePlain(TABLE, 3, 0, "40");
    duePlain(TABLE, 3, 9, "" + MIN);
    for (int key = 1; key < 9; key++) duePlain(TABLE, 3, key, "");
  }

  private static void tableNoKeys() {
    for (int number : new int[] {-1, 10, -10, 256, MIN, MIN + 9, MAX}) duePlain(TABLE, 3, number, "");
  }

  private static void tableAsItIsWhenAsked() {
    Partarrows x = new Partarrows();
    x.plain(0, TABLE, 0);
    x.then(1, 0, 0);
    dueAsk(x, 1, 3, "", "a6:3");
    x.lay(3, 9);
    dueAsk(x, 1, 3, "", "a6:3 a6:9");
    x.lay(9, NONE);
    dueAsk(x, 1, 3, "-1", "a6:3 a6:9");
    x.lift(3);
    dueAsk(x, 1, 3, "", "a6:3");
  }

  private static void just() {
    for (int n : ANY) {
      for (int number : new int[] {MIN, 0, MAX}) duePlain(JUST, n, number, "" + n);
    }
  }

  private static void withoutN() {
    String[] words = {"unit", "void", "", "half", "", "", "table", ""};
    for (int kind : new int[] {UNIT, VOID, HALF, TABLE}) {
      for (int n : ANY) {
        Partarrows x = used();
        x.plain(0, kind, 0);
        x.plain(1, kind, n);
        due("text() with " + n, x.text(1), words[kind]);
        due("areSame() with " + n, x.areSame(0, 1, -5, 20, true), true);
      }
    }
  }

  private static void onePart() {
    for (int kind = 0; kind < 8; kind++) {
      for (int n : ANY) {
        Partarrows x = atTheLimits();
        due("plain() in place of 12 parts", x.plain(0, kind, n), 1);
        due("plain() in place of one 6 deep", x.plain(1, kind, n), 1);
        for (int arrow = 0; arrow < 2; arrow++) {
          due("parts()", x.parts(arrow), 1);
          due("deep()", x.deep(arrow), 1);
        }
      }
    }
  }

  // ---- made ones, asked

  /** Arrow 0 is BELOW 10, 1 is HALF, 2 is UNIT, and 3 is what is made. */
  private static Partarrows twoOfThem() {
    Partarrows x = new Partarrows();
    x.plain(0, BELOW, 10);
    x.plain(1, HALF, 0);
    return x;
  }

  private static void thenFirstHasNone() {
    Partarrows x = twoOfThem();
    x.then(3, 0, 1);
    dueAsk(x, 3, 10, "", "a5:10");
    dueAsk(x, 3, MAX, "", "a5:" + MAX);
  }

  private static void thenSecondIsAsked() {
    Partarrows x = twoOfThem();
    x.then(3, 1, 0);
    dueAsk(x, 3, 18, "9", "a3:18 a5:9");
    dueAsk(x, 3, 20, "", "a3:20 a5:10");
    dueAsk(x, 3, MIN, "-1073741824", "a3:" + MIN + " a5:-1073741824");
    x.plain(0, JUST, 0);
    x.then(3, 0, 1);
    dueAsk(x, 3, 7, "0", "a7:7 a3:0");
  }

  private static void otherwiseFirstHasOne() {
    Partarrows x = twoOfThem();
    x.otherwise(3, 0, 1);
    dueAsk(x, 3, 9, "9", "a5:9");
    dueAsk(x, 3, 0, "0", "a5:0");
    dueAsk(x, 3, -1, "-1", "a5:-1");
    dueAsk(x, 3, MIN, "" + MIN, "a5:" + MIN);
  }

  private static void otherwiseSecondIsAsked() {
    Partarrows x = twoOfThem();
    x.otherwise(3, 0, 1);
    dueAsk(x, 3, 10, "5", "a5:10 a3:10");
    dueAsk(x, 3, 11, "", "a5:11 a3:11");
    dueAsk(x, 3, MAX, "", "a5:" + MAX + " a3:" + MAX);
    x.then(2, 1, 0);
    x.otherwise(3, 2, 1);
    dueAsk(x, 3, 40, "20", "a3:40 a5:20 a3:40");
  }

  private static void whenItIsSo() {
    Partarrows x = twoOfThem();
    x.when(3, IS_BELOW, 7, 1);
    dueAsk(x, 3, 6, "3", "t1:6 a3:6");
    dueAsk(x, 3, 5, "", "t1:5 a3:5");
    x.when(3, EVEN, 7, 2);
    dueAsk(x, 3, MIN, "" + MIN, "t0:" + MIN);
    x.when(3, UNLIKE, MAX, 1);
    dueAsk(x, 3, MIN, "-1073741824", "t2:" + MIN + " a3:" + MIN);
  }

  private static void whenItIsNotSo() {
    Partarrows x = twoOfThem();
    x.when(3, IS_BELOW, 7, 1);
    dueAsk(x, 3, 7, "", "t1:7");
    dueAsk(x, 3, 8, "", "t1:8");
    x.when(3, EVEN, 7, 2);
    dueAsk(x, 3, MAX, "", "t0:" + MAX);
    x.when(3, UNLIKE, MAX, 1);
    dueAsk(x, 3, MAX, "", "t2:" + MAX);
  }

  private static void mappedWithAnswer() {
    Partarrows x = twoOfThem();
    x.mapped(3, 0, TURN, 5);
    dueAsk(x, 3, 9, "-4", "a5:9 m2:9");
    x.mapped(3, 2, PLUS, 1);
    dueAsk(x, 3, MAX, "" + MIN, "m0:" + MAX);
    x.mapped(3, 2, TIMES, -1);
    dueAsk(x, 3, MIN, "" + MIN, "m1:" + MIN);
    x.mapped(3, 0, HALVE, 1);
    dueAsk(x, 3, 9, "", "a5:9 m3:9");
    dueAsk(x, 3, 8, "4", "a5:8 m3:8");
  }

  private static void mappedWithoutAnswer() {
    for (int map = 0; map < 4; map++) {
      Partarrows x = twoOfThem();
      x.mapped(3, 0, map, 1);
      dueAsk(x, 3, 10, "", "a5:10");
      dueAsk(x, 3, MAX, "", "a5:" + MAX);
    }
  }

  private static void unitLeavesNothing() {
    Partarrows x = twoOfThem();
    x.then(3, 2, 2);
    dueAsk(x, 3, MIN, "" + MIN, "");
    x.otherwise(3, 2, 1);
    dueAsk(x, 3, 3, "3", "");
    x.then(3, 2, 1);
    dueAsk(x, 3, 6, "3", "a3:6");
  }

  // ---- parts, how deep, text

  private static void partsOfBoth() {
    Partarrows x = new Partarrows();
    x.plain(0, ADD, 1);
    due("then() of 1 and 1", x.then(1, 0, 0), 2);
    due("otherwise() of 1 and 2", x.otherwise(2, 0, 1), 3);
    due("then() of 2 and 3", x.then(3, 1, 2), 5);
    due("otherwise() of 5 and 2", x.otherwise(3, 3, 1), 7);
    due("parts()", x.parts(3), 7);
  }

  private static void partsOfTheOne() {
    Partarrows x = new Partarrows();
    due("when() of 1", x.when(1, EVEN, 0, 0), 1);
    due("mapped() of 1", x.mapped(1, 1, PLUS, 0), 1);
    x.then(2, 1, 1);
    due("when() of 2", x.when(2, EVEN, 0, 2), 2);
    due("mapped() of 2", x.mapped(2, 2, PLUS, 0), 2);
    due("parts() of 1", x.parts(1), 1);
    due("parts() of 2", x.parts(2), 2);
  }

  private static void deepOfTheDeeper() {
    Partarrows x = new Partarrows();
    x.power(1, 0, 4);
    x.then(2, 1, 0);
    due("deep() of then() of 4 and 1", x.deep(2), 5);
    x.then(2, 0, 1);
    due("deep() of then() of 1 and 4", x.deep(2), 5);
    x.otherwise(2, 1, 0);
    due("deep() of otherwise() of 4 and 1", x.deep(2), 5);
    x.otherwise(2, 0, 1);
    due("deep() of otherwise() of 1 and 4", x.deep(2), 5);
    x.then(2, 1, 1);
    due("deep() of then() of 4 and 4", x.deep(2), 5);
    x.otherwise(2, 1, 1);
    due("deep() of otherwise() of 4 and 4", x.deep(2), 5);
  }

  private static void deepOfTheOne() {
    Partarrows x = new Partarrows();
    x.when(1, EVEN, 0, 0);
    due("deep() of when() of 1", x.deep(1), 2);
    x.mapped(1, 1, PLUS, 0);
    due("deep() of mapped() of 2", x.deep(1), 3);
    x.when(1, EVEN, 0, 1);
    due("deep() of when() of 3", x.deep(1), 4);
  }

  private static void textOfPlain() {
    String[] words = {"unit", "void", "add", "half", "over", "below", "table", "just"};
    for (int kind = 0; kind < 8; kind++) {
      boolean hasN = kind == ADD || kind == OVER || kind == BELOW || kind == JUST;
      for (int n : ANY) {
        Partarrows x = new Partarrows();
        x.plain(3, kind, n);
        due("text()", x.text(3), words[kind] + (hasN ? "" + n : ""));
      }
    }
  }

  private static void textOfMade() {
    for (int n : ANY) {
      Partarrows x = new Partarrows();
      x.plain(0, JUST, n);
      x.then(3, 0, 1);
      due("text() of then()", x.text(3), "(just" + n + ";unit)");
      x.otherwise(3, 1, 0);
      due("text() of otherwise()", x.text(3), "(unit|just" + n + ")");
      for (int test = 0; test < 3; test++) {
        x.when(3, test, n, 1);
        due("text() of when()", x.text(3), "[" + test + "," + n + "]unit");
      }
      for (int map = 0; map < 4; map++) {
        x.mapped(3, 1, map, n);
        due("text() of mapped()", x.text(3), "unit{" + map + "," + n + "}");
      }
    }
  }

  private static void textOfTheDocument() {
    Partarrows x = new Partarrows();
    x.plain(0, HALF, 0);
    x.when(0, IS_BELOW, 9, 0);
    x.plain(1, JUST, 0);
    x.mapped(1, 1, TURN, 5);
    x.otherwise(0, 0, 1);
    x.plain(1, ADD, -3);
    x.then(2, 1, 0);
    dueArrow(x, 2, "(add-3;([1,9]half|just0{2,5}))", 3, 4);
  }

  /** The longest texts that may be: all that has an n has one of eleven signs. */
  private static void longestText() {
    Partarrows x = new Partarrows();
    x.plain(0, BELOW, MIN);
    x.mapped(0, 0, PLUS, MIN);
    x.copyArrow(1, 0);
    x.mapped(0, 0, PLUS, MIN);
    x.then(1, 1, 1);
    x.otherwise(2, 0, 1);
    x.then(2, 2, 2);
    x.otherwise(2, 2, 2);
    String part = "below-2147483648{0,-2147483648}";
    String three = "(" + part + "{0,-2147483648}|(" + part + ";" + part + "))";
    String six = "(" + three + ";" + three + ")";
    dueArrow(x, 2, "(" + six + "|" + six + ")", 12, 6);
  }

  // ---- promises 20 to 25

  private static void copyArrowOfAnother() {
    Partarrows x = atTheLimits();
    String text = x.text(0);
    due("copyArrow() of 12 parts over one", x.copyArrow(2, 0), 12);
    dueArrow(x, 2, text, 12, 5);
    text = x.text(1);
    due("copyArrow() of one 6 deep", x.copyArrow(2, 1), 6);
    dueArrow(x, 2, text, 6, 6);
    x.plain(3, VOID, 0);
    due("copyArrow() of 1 part over 12", x.copyArrow(0, 3), 1);
    dueArrow(x, 0, "void", 1, 1);
  }

  private static void copyArrowOfItself() {
    for (int arrow = 0; arrow < 4; arrow++) {
      int same = arrow;
      Partarrows x = atTheLimits();
      int parts = x.parts(arrow);
      dueStill("copyArrow() of itself", x, "" + parts, y -> y.copyArrow(same, same));
    }
  }

  private static void copyArrowAsItIsNow() {
    Partarrows x = used();
    x.copyArrow(0, 3);
    x.then(3, 3, 3);
    dueArrow(x, 0, "(table|half)", 2, 2);
    x.plain(3, VOID, 0);
    dueArrow(x, 0, "(table|half)", 2, 2);
    x.plain(0, UNIT, 0);
    dueArrow(x, 3, "void", 1, 1);
  }

  private static int pair(Partarrows x, boolean isThen, int arrow, int first, int second) {
    return isThen ? x.then(arrow, first, second) : x.otherwise(arrow, first, second);
  }

  /** Both as they are now, also if it is one of them itself, and what comes later changes nothing. */
  private static void pairAsTheyAreNow(boolean isThen) {
    String between = isThen ? ";" : "|";
    Partarrows x = new Partarrows();
    x.plain(0, ADD, 1);
    x.plain(1, ADD, 2);
    due("of itself and another one", pair(x, isThen, 0, 0, 1), 2);
    dueArrow(x, 0, "(add1" + between + "add2)", 2, 2);
    due("of another one and itself", pair(x, isThen, 1, 0, 1), 3);
    dueArrow(x, 1, "((add1" + between + "add2)" + between + "add2)", 3, 3);
    due("of itself twice", pair(x, isThen, 0, 0, 0), 4);
    dueArrow(x, 0, "((add1" + between + "add2)" + between + "(add1" + between + "add2))", 4, 3);
    x.plain(0, VOID, 0);
    dueArrow(x, 1, "((add1" + between + "add2)" + between + "add2)", 3, 3);
  }

  private static void pairOfTwelveParts(boolean isThen) {
    Partarrows x = atTheLimits();
    x.then(0, 3, 3);
    due("of 8 and 4 parts", pair(x, isThen, 1, 0, 3), 12);
    due("parts()", x.parts(1), 12);
    due("deep()", x.deep(1), 5);
    x.then(0, 0, 2);
    x.then(3, 2, 2);
    x.then(3, 3, 2);
    due("of 9 and 3 parts, 6 deep", pair(x, isThen, 1, 0, 3), 12);
    due("parts()", x.parts(1), 12);
    due("deep()", x.deep(1), 6);
  }

  private static void pairOfThirteenParts(boolean isThen) {
    dueRefused("of 12 parts and 1", atTheLimits(), x -> pair(x, isThen, 3, 0, 2));
    dueRefused("of 1 part and 12", atTheLimits(), x -> pair(x, isThen, 3, 2, 0));
    dueRefused("of 12 parts and 1, over itself", atTheLimits(), x -> pair(x, isThen, 0, 0, 2));
    dueRefused("of 12 parts twice", atTheLimits(), x -> pair(x, isThen, 1, 0, 0));
    Partarrows y = atTheLimits();
    y.then(0, 3, 3);
    y.then(3, 3, 2);
    dueRefused("of 8 parts and 5", y, x -> pair(x, isThen, 1, 0, 3));
  }

  private static void pairSixDeep(boolean isThen) {
    Partarrows x = new Partarrows();
    x.power(1, 0, 5);
    due("of one 5 deep and 1", pair(x, isThen, 2, 1, 0), 6);
    due("deep()", x.deep(2), 6);
    due("of 1 and one 5 deep", pair(x, isThen, 2, 0, 1), 6);
    due("deep()", x.deep(2), 6);
    due("of two 5 deep", pair(x, isThen, 2, 1, 1), 10);
    due("deep()", x.deep(2), 6);
  }

  private static void pairSevenDeep(boolean isThen) {
    dueRefused("of one 6 deep and 1", atTheLimits(), x -> pair(x, isThen, 3, 1, 2));
    dueRefused("of 1 and one 6 deep", atTheLimits(), x -> pair(x, isThen, 3, 2, 1));
    dueRefused("of two 6 deep", atTheLimits(), x -> pair(x, isThen, 1, 1, 1));
  }

  private static void whenSixDeep() {
    Partarrows x = atTheLimits();
    due("when() of 12 parts 5 deep", x.when(3, EVEN, MIN, 0), 12);
    due("deep()", x.deep(3), 6);
    x.power(1, 2, 5);
    due("when() of one 5 deep, over itself", x.when(1, UNLIKE, MAX, 1), 5);
    due("deep()", x.deep(1), 6);
  }

  private static void whenSevenDeep() {
    dueRefused("when() of one 6 deep", atTheLimits(), x -> x.when(3, EVEN, 0, 1));
    dueRefused("when() of one 6 deep, over itself", atTheLimits(), x -> x.when(1, UNLIKE, 0, 1));
    Partarrows y = atTheLimits();
    y.when(0, EVEN, 0, 0);
    dueRefused("when() of 12 parts 6 deep", y, x -> x.when(2, IS_BELOW, 0, 0));
  }

  private static void mappedSixDeep() {
    Partarrows x = atTheLimits();
    due("mapped() of 12 parts 5 deep", x.mapped(3, 0, HALVE, MIN), 12);
    due("deep()", x.deep(3), 6);
    x.power(1, 2, 5);
    due("mapped() of one 5 deep, over itself", x.mapped(1, 1, PLUS, MAX), 5);
    due("deep()", x.deep(1), 6);
  }

  private static void mappedSevenDeep() {
    dueRefused("mapped() of one 6 deep", atTheLimits(), x -> x.mapped(3, 1, PLUS, 0));
    dueRefused("mapped() of one 6 deep, over itself", atTheLimits(), x -> x.mapped(1, 1, TURN, 0));
    Partarrows y = atTheLimits();
    y.mapped(0, 0, PLUS, 0);
    dueRefused("mapped() of 12 parts 6 deep", y, x -> x.mapped(2, 0, HALVE, 0));
  }

  private static void whenAsItIsNow() {
    Partarrows x = new Partarrows();
    x.plain(0, ADD, 1);
    x.when(1, EVEN, 0, 0);
    x.mapped(2, 0, PLUS, 0);
    x.plain(0, VOID, 0);
    due("text() of when()", x.text(1), "[0,0]add1");
    due("text() of mapped()", x.text(2), "add1{0,0}");
  }

  private static void powerOfNone() {
    for (int first = 0; first < 4; first++) {
      Partarrows x = atTheLimits();
      due("power() of 0", x.power(3, first, 0), 1);
      dueArrow(x, 3, "unit", 1, 1);
      due("power() of 0 over itself", x.power(first, first, 0), 1);
      dueArrow(x, first, "unit", 1, 1);
      due("house(4)", x.house(4), 1);
    }
  }

  private static void powerOfOne() {
    for (int first = 0; first < 4; first++) {
      Partarrows x = atTheLimits();
      String text = x.text(first);
      int parts = x.parts(first);
      int deep = x.deep(first);
      due("power() of 1", x.power(2, first, 1), parts);
      dueArrow(x, 2, text, parts, deep);
      due("power() of 1 over itself", x.power(first, first, 1), parts);
      dueArrow(x, first, text, parts, deep);
    }
  }

  private static void powerOfMore() {
    Partarrows x = new Partarrows();
    x.plain(0, ADD, 1);
    String text = "add1";
    for (int many = 2; many <= 6; many++) {
      text = "(" + text + ";add1)";
      due("power() of " + many, x.power(3, 0, many), many);
      dueArrow(x, 3, text, many, many);
    }
    dueAsk(x, 3, 0, "6", "a2:0 a2:1 a2:2 a2:3 a2:4 a2:5");
    x.when(0, EVEN, 0, 0);
    due("power() of itself", x.power(0, 0, 2), 2);
    dueArrow(x, 0, "([0,0]add1;[0,0]add1)", 2, 3);
  }

  private static void powerSixDeep() {
    Partarrows x = new Partarrows();
    due("power() of 6 of one 1 deep", x.power(1, 0, 6), 6);
    due("deep()", x.deep(1), 6);
    x.then(2, 0, 0);
    due("power() of 5 of one 2 deep", x.power(1, 2, 5), 10);
    due("deep()", x.deep(1), 6);
    x.power(2, 0, 5);
    due("power() of 2 of one 5 deep", x.power(1, 2, 2), 10);
    due("deep()", x.deep(1), 6);
  }

  private static void powerSevenDeep() {
    dueRefused("power() of 7 of one 1 deep", atTheLimits(), x -> x.power(3, 2, 7));
    dueRefused("power() of 2 of one 6 deep", atTheLimits(), x -> x.power(3, 1, 2));
    Partarrows y = new Partarrows();
    y.when(1, EVEN, 0, 0);
    dueRefused("power() of 6 of one 2 deep", y, x -> x.power(3, 1, 6));
    due("power() of 5 of one 2 deep", y.power(3, 1, 5), 5);
    dueRefused("power() of 12, the last that is let", new Partarrows(), x -> x.power(0, 0, 12));
  }

  private static void powerOfTwelveParts() {
    Partarrows x = atTheLimits();
    due("power() of 3 of 4 parts", x.power(0, 3, 3), 12);
    due("deep()", x.deep(0), 5);
    x.then(0, 2, 2);
    x.then(0, 0, 2);
    due("power() of 4 of 3 parts", x.power(1, 0, 4), 12);
    due("deep()", x.deep(1), 6);
    x.then(0, 3, 0);
    dueRefused("power() of 2 of 7 parts", x, y -> y.power(3, 0, 2));
  }

  private static void powerOfMoreThanTwelve() {
    dueRefused("power() of 2 of 12 parts", atTheLimits(), x -> x.power(3, 0, 2));
    dueRefused("power() of 4 of 4 parts", atTheLimits(), x -> x.power(0, 3, 4));
    dueRefused("power() of 12 of 12 parts", atTheLimits(), x -> x.power(0, 0, 12));
  }

  // ---- the table

  private static void layTells() {
    for (int key = 0; key < 10; key++) {
      Partarrows x = new Partarrows();
      x.plain(0, TABLE, 0);
      due("lay() of a key without one", x.lay(key, MIN), 0);
      dueAsk(x, 0, key, "" + MIN, "a6:" + key);
      due("lay() of a key with one", x.lay(key, MAX), 1);
      dueAsk(x, 0, key, "" + MAX, "a6:" + key);
      due("house(1)", x.house(1), 1);
      due("domain() of all keys", x.domain(0, -5, 20), 1);
      due("lift()", x.lift(key), 1);
      due("lay() behind lift()", x.lay(key, 0), 0);
      dueAsk(x, 0, key, "0", "a6:" + key);
    }
  }

  private static void liftTells() {
    for (int key = 0; key < 10; key++) {
      Partarrows x = new Partarrows();
      x.plain(0, TABLE, 0);
      due("lift() of a key without one", x.lift(key), 0);
      for (int k = 0; k < 10; k++) x.lay(k, -k);
      due("lift() of a key with one", x.lift(key), 1);
      due("lift() again", x.lift(key), 0);
      dueAsk(x, 0, key, "", "a6:" + key);
      due("house(1)", x.house(1), 9);
      due("domain() of all keys", x.domain(0, -5, 20), 9);
    }
  }

  private static void testPair(int promise, String name, boolean isThen) {
    String head = "Promise " + promise + ": " + name + "(): ";
    test(head + "of both as they are now", () -> pairAsTheyAreNow(isThen));
    test(head + "how many PARTS it has then: 12", () -> pairOfTwelveParts(isThen));
    test(head + "-9 if it would have more than 12", () -> pairOfThirteenParts(isThen));
    test(head + "6 deep", () -> pairSixDeep(isThen));
    test(head + "-9 if it would be deeper than 6", () -> pairSevenDeep(isThen));
  }

  public static void main(String[] args) {
    test("3. Arrows: 0 UNIT: x", ArrowEdgesTest::unit);
    test("3. Arrows: 1 VOID: no answer", ArrowEdgesTest::voids);
    test("3. Arrows: 2 ADD: x and n, if that CAN BE TOLD", ArrowEdgesTest::addThatCanBeTold);
    test("3. Arrows: 2 ADD: otherwise no answer", ArrowEdgesTest::addThatCanNotBeTold);
    test("3. Arrows: 3 HALF: x / 2, if x is even", ArrowEdgesTest::halfOfEven);
    test("3. Arrows: 3 HALF: otherwise no answer", ArrowEdgesTest::halfOfOdd);
    test("3. Arrows: 4 OVER: n / x, rounded towards 0", ArrowEdgesTest::overTowardsZero);
    test("3. Arrows: 4 OVER: no answer if x is 0", ArrowEdgesTest::overZero);
    test("3. Arrows: 4 OVER: or if it can not be told", ArrowEdgesTest::overThatCanNotBeTold);
    test("3. Arrows: 5 BELOW: x, if x is less than n, otherwise no answer", ArrowEdgesTest::below);
    test("3. Arrows: 5 BELOW: n at both ends", ArrowEdgesTest::belowBothEnds);
    test("3. Arrows: 6 TABLE: what the KEY x has", ArrowEdgesTest::tableKeys);
    test("3. Arrows: 6 TABLE: no answer if there is none such", ArrowEdgesTest::tableNoKeys);
    test("3. Arrows: 6 TABLE: each of the KEYS may have a NUMBER", ArrowEdgesTest::tableAsItIsWhenAsked);
    test("3. Arrows: 7 JUST: n", ArrowEdgesTest::just);
    test("3. Arrows: n does nothing for 0, 1, 3, 6", ArrowEdgesTest::withoutN);
    test("3. Arrows: a PLAIN one has 1 PART, and is 1 deep; promise 19 tells 1", ArrowEdgesTest::onePart);
    test("3. Arrows: then: if the first has no answer, there is none", ArrowEdgesTest::thenFirstHasNone);
    test("3. Arrows: then: otherwise the second is asked with that", ArrowEdgesTest::thenSecondIsAsked);
    test("3. Arrows: otherwise: the second is not asked", ArrowEdgesTest::otherwiseFirstHasOne);
    test("3. Arrows: otherwise: the second is asked with x", ArrowEdgesTest::otherwiseSecondIsAsked);
    test("3. Arrows: when: if it is so, the one is asked with x", ArrowEdgesTest::whenItIsSo);
    test("3. Arrows: when: otherwise there is no answer", ArrowEdgesTest::whenItIsNotSo);
    test("3. Arrows: mapped: its answer goes through the MAP", ArrowEdgesTest::mappedWithAnswer);
    test("3. Arrows: mapped: as an EMPTY BOX does", ArrowEdgesTest::mappedWithoutAnswer);
    test("4. Traces: each PLAIN ARROW but UNIT", ArrowEdgesTest::unitLeavesNothing);
    test("3. Arrows: PARTS: those of both together", ArrowEdgesTest::partsOfBoth);
    test("3. Arrows: PARTS: (\"when\", \"mapped\": those of the one)", ArrowEdgesTest::partsOfTheOne);
    test("3. Arrows: how deep: 1 more than the deeper one of both", ArrowEdgesTest::deepOfTheDeeper);
    test("3. Arrows: how deep: (than the one)", ArrowEdgesTest::deepOfTheOne);
    test("3. Arrows: as a text: plain ones", ArrowEdgesTest::textOfPlain);
    test("3. Arrows: as a text: made ones, \"-\" ahead if below 0", ArrowEdgesTest::textOfMade);
    test("3. Arrows: as a text: what the document shows", ArrowEdgesTest::textOfTheDocument);
    test("Promise 34: the longest text", ArrowEdgesTest::longestText);
    test("Promise 20: an ARROW becomes as another one", ArrowEdgesTest::copyArrowOfAnother);
    test("Promise 20: (or the same)", ArrowEdgesTest::copyArrowOfItself);
    test("Promise 20: as another one is now", ArrowEdgesTest::copyArrowAsItIsNow);
    testPair(21, "then", true);
    testPair(22, "otherwise", false);
    test("Promise 23: 12 PARTS, 6 deep", ArrowEdgesTest::whenSixDeep);
    test("Promise 23: -9 likewise", ArrowEdgesTest::whenSevenDeep);
    test("Promise 24: 12 PARTS, 6 deep", ArrowEdgesTest::mappedSixDeep);
    test("Promise 24: -9 likewise", ArrowEdgesTest::mappedSevenDeep);
    test("Promises 23 and 24: the one as it is now", ArrowEdgesTest::whenAsItIsNow);
    test("Promise 25: for 0 UNIT", ArrowEdgesTest::powerOfNone);
    test("Promise 25: for 1 that one", ArrowEdgesTest::powerOfOne);
    test("Promise 25: for more (for one less) then that one", ArrowEdgesTest::powerOfMore);
    test("Promise 25: what comes at last is 6 deep", ArrowEdgesTest::powerSixDeep);
    test("Promise 25: -9 if it would be deeper than 6", ArrowEdgesTest::powerSevenDeep);
    test("Promise 25: what comes at last has 12", ArrowEdgesTest::powerOfTwelveParts);
    test("Promise 25: -9 if it would have more than 12", ArrowEdgesTest::powerOfMoreThanTwelve);
    test("Promise 26: in the TABLE a KEY has a NUMBER; 1 if it had one", ArrowEdgesTest::layTells);
    test("Promise 27: a KEY has none any more; 1 if it had one", ArrowEdgesTest::liftTells);
    end();
  }
}
