import java.util.Arrays;

/** The edges of the description's part 4 and of the promises 28 to 31 and 35 to 39. */
public final class AskEdgesTest extends Check {
  private static final int[] ENDS = {MIN, -1, 0, 9, 10, MAX};
  private static final String[] TRACED = {
    "map", "filter", "bind", "orBox", "orArrow", "orAsk", "ask", "askInto",
  };

  private static void dueTrace(String behind, Partarrows x, String want) {
    due("trace() behind " + behind, x.trace(), want);
    due("traced() behind " + behind, x.traced(), want.isEmpty() ? 0 : want.split(" ").length);
  }

  private static void dueAsk(Partarrows x, int arrow, int number, String want, String marks) {
    due(x.text(arrow) + " asked with " + number, x.ask(arrow, number), want);
    dueTrace("that", x, marks);
  }

  // ---- traces

  private static void marksOfArrows() {
    for (int kind = 1; kind < 8; kind++) {
      for (int number : ENDS) {
        Partarrows x = new Partarrows();
        x.plain(0, kind, 3);
        x.ask(0, number);
        dueTrace("kind " + kind, x, "a" + kind + ":" + number);
      }
    }
  }

  private static void noMarkOfUnit() {
    for (int number : ENDS) {
      Partarrows x = used();
      x.plain(0, UNIT, number);
      dueAsk(x, 0, number, "" + number, "");
    }
  }

  private static void marksOfTests() {
    for (int test = 0; test < 3; test++) {
      for (int number : ENDS) {
        Partarrows x = new Partarrows();
        x.when(1, test, number, 0);
        x.ask(1, number);
        dueTrace("when() of " + test, x, "t" + test + ":" + number);
        x.box(0, number);
        x.filter(0, test, 3);
        dueTrace("filter() of " + test, x, "t" + test + ":" + number);
      }
    }
  }

  private static void marksOfMaps() {
    for (int map = 0; map < 4; map++) {
      for (int number : ENDS) {
        Partarrows x = new Partarrows();
        x.mapped(1, 0, map, 3);
        x.ask(1, number);
        dueTrace("mapped() of " + map, x, "m" + map + ":" + number);
        x.box(0, number);
        x.map(0, map, 3);
        dueTrace("map() of " + map, x, "m" + map + ":" + number);
      }
    }
  }

  private static void marksBehindThoseThere() {
    Partarrows x = new Partarrows();
    x.plain(0, ADD, -3);
    x.when(0, UNLIKE, 0, 0);
    x.mapped(0, 0, TURN, 5);
    x.plain(1, VOID, 0);
    x.then(1, 0, 1);
    x.otherwise(0, 1, 0);
    dueAsk(x, 0, 2, "6", "t2:2 a2:2 m2:-1 a1:6 t2:2 a2:2 m2:-1");
    dueAsk(x, 0, 0, "", "t2:0 t2:0");
  }

  private static void noneAtFirst() {
    dueTrace("nothing", new Partarrows(), "");
    Partarrows x = new Partarrows();
    x.plain(0, JUST, 1);
    x.box(0, 1);
    x.domain(0, 0, 20);
    dueTrace("what is no call of TRACE", x, "");
  }

  /** A call, where there are marks of another call, and once more, leaves its own alone; box 0 has 5. */
  private static void dueAnew(String name, String marks, Call call) {
    Partarrows x = used();
    x.plain(1, HALF, 0);
    for (int times = 0; times < 2; times++) {
      x.box(0, 5);
      x.none(3);
      call.of(x);
      dueTrace(name, x, marks);
    }
  }

  private static void beginsAnew() {
    dueAnew("map()", "m1:5", x -> x.map(0, TIMES, 3));
    dueAnew("filter()", "t1:5", x -> x.filter(0, IS_BELOW, 3));
    dueAnew("bind()", "a3:5", x -> x.bind(0, 1));
    dueAnew("orBox()", "", x -> x.orBox(3, 0));
    dueAnew("orArrow()", "a3:5", x -> x.orArrow(3, 1, 5));
    dueAnew("orAsk()", "a3:5", x -> x.orAsk(3, 1, 5));
    dueAnew("ask()", "a3:5", x -> x.ask(1, 5));
    dueAnew("askInto()", "a3:5", x -> x.askInto(0, 1, 5));
  }

  private static void noneIfNothingIsAsked() {
    dueAnew("map() of an empty one", "", x -> x.map(3, TIMES, 3));
    dueAnew("filter() of an empty one", "", x -> x.filter(3, IS_BELOW, 3));
    dueAnew("bind() of an empty one", "", x -> x.bind(3, 1));
    dueAnew("orBox() of a full one", "", x -> x.orBox(0, 1));
    dueAnew("orArrow() of a full one", "", x -> x.orArrow(0, 1, 5));
    dueAnew("orAsk() of a full one", "", x -> x.orAsk(0, 1, 5));
  }

  private static boolean isTraced(String name) {
    for (String traced : TRACED) {
      if (traced.equals(name)) return true;
    }
    return false;
  }

  private static void noOtherCallChangesIt() {
    for (Face.Row row : Face.ROWS) {
      if (isTraced(row.name)) continue;
      for (int value = 0; value < 3; value++) {
        Partarrows x = used();
        int[] arguments = new int[row.sorts.length()];
        Arrays.fill(arguments, value);
        Face.call(x, row, arguments);
        dueTrace(row.name + " of " + value, x, "a6:6 a3:6");
      }
    }
  }

  private static void refusedKeepsIt() {
    Partarrows x = atTheLimits();
    x.ask(1, 2);
    String marks = "a2:2 a2:3 a2:4 a2:5 a2:6 a2:7";
    x.then(3, 0, 0);
    dueTrace("then()", x, marks);
    x.otherwise(3, 0, 0);
    dueTrace("otherwise()", x, marks);
    x.when(3, EVEN, 0, 1);
    dueTrace("when()", x, marks);
    x.mapped(3, 1, PLUS, 0);
    dueTrace("mapped()", x, marks);
    x.power(3, 1, 12);
    dueTrace("power()", x, marks);
    due("house(4)", x.house(4), 6);
    x.number(3);
    dueTrace("number() of an empty one", x, marks);
  }

  // ---- promises 28 to 31

  private static void askByDigits() {
    int[] numbers = {0, 7, 10, -1, -9, -10, MAX, MIN};
    String[] texts = {"0", "7", "10", "-1", "-9", "-10", "2147483647", "-2147483648"};
    for (int i = 0; i < numbers.length; i++) {
      Partarrows x = new Partarrows();
      dueAsk(x, 3, numbers[i], texts[i], "");
      x.plain(0, JUST, numbers[i]);
      dueAsk(x, 0, 4, texts[i], "a7:4");
      due("house(4)", x.house(4), 0);
    }
  }

  private static void askWithoutOne() {
    Partarrows x = used();
    String before = x.house(0) + " " + x.house(4);
    dueAsk(x, 2, MAX, "", "a3:" + MAX);
    dueAsk(x, 1, 10, "", "a6:10");
    dueAsk(x, 0, MAX, "", "a2:" + MAX);
    due("what is counted", x.house(0) + " " + x.house(4), before);
  }

  private static void askIntoEmpty() {
    for (int number : ENDS) {
      Partarrows x = new Partarrows();
      due("askInto() of UNIT", x.askInto(3, 0, number), 1);
      due("number()", x.number(3), "" + number);
      due("the other ones", x.house(0), 1);
      dueTrace("askInto()", x, "");
    }
  }

  private static void askIntoWithoutOne() {
    Partarrows x = used();
    due("askInto() of a full one", x.askInto(0, 2, 7), 0);
    due("isEmpty()", x.isEmpty(0), true);
    dueTrace("askInto()", x, "a3:7");
    due("askInto() of an empty one", x.askInto(0, 1, MIN), 0);
    due("isEmpty()", x.isEmpty(0), true);
    dueTrace("askInto()", x, "a6:" + MIN);
    due("house(4)", x.house(4), 1);
  }

  private static void askIntoOverFull() {
    Partarrows x = used();
    due("askInto() of a full one", x.askInto(0, 2, MIN), 1);
    due("number()", x.number(0), "-1073741824");
    due("the other one", x.number(1), "-8");
    dueTrace("askInto()", x, "a3:" + MIN);
  }

  private static void traceOfOne() {
    Partarrows x = new Partarrows();
    x.plain(0, ADD, 1);
    dueAsk(x, 0, 5, "6", "a2:5");
    x.then(0, 0, 0);
    dueAsk(x, 0, 5, "7", "a2:5 a2:6");
  }

  /** No arrow of 12 parts and 6 deep leaves more than 28, so the first 30 are all that may be there. */
  private static void traceOfMost() {
    Partarrows x = widest();
    due("parts()", x.parts(2), 12);
    due("deep()", x.deep(2), 6);
    due("ask()", x.ask(2, -6), "6");
    String half = "a2:-6 m0:-5 m0:-5 a2:-5 m0:-4 a2:-4 m0:-3 a2:-3 m0:-2 m0:-2 a2:-2 m0:-1 a2:-1 m0:0";
    String rest = "a2:0 m0:1 m0:1 a2:1 m0:2 a2:2 m0:3 a2:3 m0:4 m0:4 a2:4 m0:5 a2:5 m0:6";
    due("trace()", x.trace(), half + " " + rest);
    due("traced()", x.traced(), 28);
    due("bind()", x.box(0, -6) + x.bind(0, 2), 2);
    due("trace()", x.trace(), half + " " + rest);
    x.ask(3, 1);
    dueTrace("ask() of UNIT", x, "");
  }

  private static void longestTrace() {
    Partarrows x = longest();
    due("parts()", x.parts(2), 12);
    due("deep()", x.deep(2), 6);
    due("ask()", x.ask(2, MIN), "" + MIN);
    String at = ":" + MIN + " ";
    String three = "t2" + at + "a7" + at + "m1" + at + "t2" + at + "a7" + at + "t2" + at + "a7" + at;
    due("trace()", x.trace(), three.repeat(4).trim());
    due("traced()", x.traced(), 28);
  }

  // ---- domain

  private static void domainOfNone() {
    for (int low : ENDS) {
      dueStill("domain() of none", new Partarrows(), "0", x -> x.domain(0, low, 0));
    }
  }

  private static void domainOfMany() {
    for (int many = 0; many <= 20; many++) {
      Partarrows x = new Partarrows();
      due("domain() of " + many, x.domain(0, -5, many), many);
      due("domain() of " + many + " from MIN", x.domain(0, MIN, many), many);
      x.plain(1, HALF, 0);
      due("domain() of " + many + " from 0", x.domain(1, 0, many), (many + 1) / 2);
      due("domain() of " + many + " from -1", x.domain(1, -1, many), many / 2);
      x.plain(1, VOID, 0);
      due("domain() of VOID", x.domain(1, -5, many), 0);
    }
  }

  private static void domainAboveAll() {
    for (int many = 0; many <= 20; many++) {
      Partarrows x = new Partarrows();
      due("domain() of " + many + " from MAX", x.domain(0, MAX, many), Math.min(many, 1));
      due("domain() of " + many + " from MAX - 18", x.domain(0, MAX - 18, many), Math.min(many, 19));
      due("domain() of " + many + " from MAX - 19", x.domain(0, MAX - 19, many), many);
      x.plain(1, HALF, 0);
      due("domain() of HALF from MAX", x.domain(1, MAX, many), 0);
      due("domain() of HALF from MAX - 1", x.domain(1, MAX - 1, many), Math.min(many, 1));
    }
  }

  /** The number that comes behind MAX, if it goes round, is MIN, which alone has an answer. */
  private static void domainGoesNotRound() {
    Partarrows x = new Partarrows();
    x.plain(0, BELOW, MIN + 1);
    due("domain() at MIN", x.domain(0, MIN, 20), 1);
    for (int many = 0; many <= 20; many++) {
      due("domain() of " + many + " from MAX", x.domain(0, MAX, many), 0);
      due("domain() of " + many + " from MAX - 5", x.domain(0, MAX - 5, many), 0);
    }
  }

  private static void domainOfTable() {
    Partarrows x = used();
    due("domain() up to below the first", x.domain(1, -17, 19), 0);
    due("domain() up to the first", x.domain(1, -17, 20), 1);
    due("domain() of both", x.domain(1, 2, 8), 2);
    due("domain() up to below the last", x.domain(1, 2, 7), 1);
    due("domain() of the last", x.domain(1, 9, 20), 1);
    due("domain() behind the last", x.domain(1, 10, 20), 0);
  }

  private static void domainStays() {
    Partarrows x = used();
    dueStill("domain()", x, "11", y -> y.domain(3, 0, 19));
  }

  // ---- areSame

  private static void areSameOfNone() {
    for (int low : ENDS) {
      dueStill("areSame() of none", used(), "true", x -> x.areSame(0, 1, low, 0, true));
      dueStill("areSame() of none", used(), "true", x -> x.areSame(0, 1, low, 0, false));
    }
  }

  /** BELOW n and UNIT are the same up to n alone. */
  private static void areSameUpTo() {
    for (int many = 1; many <= 20; many++) {
      Partarrows x = new Partarrows();
      x.plain(1, BELOW, 10);
      due("areSame() of the numbers below", x.areSame(0, 1, 10 - many, many, false), true);
      due("areSame() with one more", x.areSame(0, 1, 11 - many, many, false), false);
      due("areSame() the other way", x.areSame(1, 0, 11 - many, many, false), false);
    }
  }

  private static void areSameAboveAll() {
    for (int many = 0; many <= 20; many++) {
      Partarrows x = new Partarrows();
      x.plain(1, ADD, MIN);
      x.plain(2, ADD, MIN + 1);
      x.plain(3, ADD, 0);
      due("areSame() from MAX", x.areSame(1, 2, MAX, many, false), many == 0);
      due("areSame() from MAX", x.areSame(0, 3, MAX, many, false), true);
      due("areSame() from MAX - 3", x.areSame(0, 3, MAX - 3, many, false), true);
      x.plain(2, BELOW, MAX);
      due("areSame() from MAX", x.areSame(0, 2, MAX, many, false), many == 0);
      due("areSame() from MAX - 18", x.areSame(0, 2, MAX - 18, many, false), many < 19);
    }
    Partarrows y = new Partarrows();
    y.plain(1, BELOW, MIN + 1);
    due("areSame() from MIN", y.areSame(0, 1, MIN, 1, false), true);
    due("areSame() from MIN", y.areSame(0, 1, MIN, 2, false), false);
  }

  private static void areSameWithoutAnswers() {
    Partarrows x = new Partarrows();
    x.plain(1, VOID, 0);
    x.plain(2, BELOW, 0);
    x.plain(3, JUST, 0);
    due("areSame() of none and none", x.areSame(1, 2, 0, 20, false), true);
    due("areSame() of none and none", x.areSame(1, 2, MAX, 20, false), true);
    due("areSame() of none and -1", x.areSame(1, 2, -1, 1, false), false);
    due("areSame() of none and 0", x.areSame(1, 3, 0, 1, false), false);
    due("areSame() of 0 and none", x.areSame(3, 1, 0, 1, false), false);
    due("areSame() of 0 and 0", x.areSame(3, 0, 0, 1, false), true);
    due("areSame() of 0 and 1", x.areSame(3, 0, 0, 2, false), false);
    x.plain(3, JUST, MIN);
    due("areSame() of MIN and none", x.areSame(3, 1, 0, 1, false), false);
    due("areSame() of MIN and MIN", x.areSame(3, 0, MIN, 1, false), true);
  }

  /** The number that comes behind MAX, if it goes round, is MIN, where alone they are unlike. */
  private static void areSameGoesNotRound() {
    Partarrows x = new Partarrows();
    x.when(1, UNLIKE, MIN, 0);
    due("areSame() at MIN", x.areSame(0, 1, MIN, 1, false), false);
    for (int many = 0; many <= 20; many++) {
      due("areSame() from MAX", x.areSame(0, 1, MAX, many, false), true);
      due("areSame() from MAX - 5", x.areSame(0, 1, MAX - 5, many, false), true);
    }
  }

  /** Two that leave the same, but answer with other numbers. */
  private static void areSameOfMarksAlone() {
    Partarrows x = new Partarrows();
    x.plain(0, JUST, 3);
    x.plain(1, JUST, 4);
    x.plain(2, BELOW, 5);
    x.plain(3, BELOW, 6);
    for (boolean isTraced : new boolean[] {false, true}) {
      due("areSame() of JUST 3 and JUST 4", x.areSame(0, 1, 0, 1, isTraced), false);
      due("areSame() of BELOW 5 and BELOW 6", x.areSame(2, 3, 5, 1, isTraced), false);
      due("areSame() of BELOW 6 and BELOW 5", x.areSame(3, 2, 5, 1, isTraced), false);
      due("areSame() of them where both are so", x.areSame(2, 3, 4, 1, isTraced), true);
      due("areSame() of them where none is so", x.areSame(2, 3, 6, 1, isTraced), true);
    }
  }

  /** Two arrows that answer alike; whether they leave the same. */
  private static void dueSame(String what, Partarrows x, boolean haveSameMarks) {
    due("areSame() of " + what, x.areSame(0, 1, 3, 1, false), true);
    due("areSame() of the marks of " + what, x.areSame(0, 1, 3, 1, true), haveSameMarks);
    due("areSame() of the marks of " + what + ", turned", x.areSame(1, 0, 3, 1, true), haveSameMarks);
  }

  private static void areSameTraced() {
    Partarrows x = new Partarrows();
    dueSame("two UNITS", x, true);
    x.plain(1, ADD, 0);
    dueSame("UNIT and ADD 0", x, false);
    x.plain(0, ADD, 0);
    dueSame("two ADD 0", x, true);
    x.plain(0, BELOW, 4);
    dueSame("two kinds", x, false);
    x.plain(2, UNIT, 0);
    x.when(0, IS_BELOW, 4, 2);
    x.when(1, UNLIKE, 4, 2);
    dueSame("two tests", x, false);
    x.mapped(1, 2, TIMES, 1);
    dueSame("a test and a map of one kind", x, false);
    x.plain(0, BELOW, 4);
    x.plain(1, BELOW, 5);
    dueSame("one kind with two n", x, true);
  }

  private static void areSameInSequence() {
    Partarrows x = new Partarrows();
    x.mapped(2, 3, PLUS, 0);
    x.when(3, IS_BELOW, 9, 3);
    x.then(0, 2, 3);
    x.then(1, 3, 2);
    dueSame("marks in another sequence", x, false);
    x.then(1, 2, 3);
    dueSame("marks in the same sequence", x, true);
    x.then(1, 1, 2);
    dueSame("one mark more", x, false);
    x.mapped(0, 3, PLUS, 0);
    x.when(1, IS_BELOW, 9, 2);
    dueSame("the marks of a test and a map", x, true);
  }

  private static void areSameOfNumbers() {
    Partarrows x = new Partarrows();
    x.plain(2, JUST, 7);
    x.mapped(0, 3, PLUS, 1);
    x.then(0, 0, 2);
    x.mapped(1, 3, PLUS, 2);
    x.then(1, 1, 2);
    dueSame("marks that end with other numbers", x, false);
    x.mapped(1, 3, PLUS, 1);
    x.then(1, 1, 2);
    dueSame("marks that end with the same numbers", x, true);
  }

  /** Marks are held against each other also where there is no answer. */
  private static void areSameMarksWithoutAnswer() {
    Partarrows x = new Partarrows();
    x.plain(0, VOID, 0);
    x.otherwise(1, 0, 0);
    dueSame("1 and 2 marks without an answer", x, false);
    x.copyArrow(0, 1);
    dueSame("2 and 2 marks without an answer", x, true);
  }

  private static void areSameOfMost() {
    Partarrows x = widest();
    x.copyArrow(3, 2);
    due("areSame() of 28 marks", x.areSame(2, 3, -3, 20, true), true);
    x.plain(1, ADD, 1);
    x.mapped(1, 1, PLUS, 0);
    x.then(1, 1, 1);
    x.plain(0, ADD, 1);
    x.mapped(0, 0, PLUS, 0);
    x.mapped(0, 0, TIMES, 1);
    x.then(3, 0, 1);
    x.plain(0, ADD, 1);
    x.mapped(0, 0, PLUS, 0);
    x.mapped(0, 0, PLUS, 0);
    x.then(0, 0, 1);
    x.then(1, 0, 0);
    x.then(3, 0, 3);
    due("then()", x.then(3, 1, 3), 12);
    due("areSame() of their answers", x.areSame(2, 3, -3, 20, false), true);
    due("areSame() of 28 marks, of which the 24th is unlike", x.areSame(2, 3, -3, 20, true), false);
  }

  private static void areSameStays() {
    dueStill("areSame() of the marks", used(), "false", x -> x.areSame(1, 3, 0, 20, true));
    dueStill("areSame()", used(), "true", x -> x.areSame(3, 3, 0, 20, false));
  }

  // ---- promises 37 to 39

  private static void isUnitOfAll() {
    for (int arrow = 0; arrow < 4; arrow++) {
      int one = arrow;
      for (int number : ENDS) {
        dueStill("isUnit()", used(), "true", x -> x.isUnit(one, number));
        dueStill("isUnit() at the limits", atTheLimits(), "true", x -> x.isUnit(one, number));
        dueStill("isUnit() of the widest", widest(), "true", x -> x.isUnit(one, number));
      }
    }
  }

  private static void isJoinedOfAll() {
    for (int k = 0; k < 64; k++) {
      int first = k / 16;
      int second = k / 4 % 4;
      int third = k % 4;
      for (int number : new int[] {MIN, 6, MAX}) {
        Partarrows x = atTheLimits();
        x.plain(2, TABLE, 0);
        dueStill("isJoined() of " + k, x, "true", y -> y.isJoined(first, second, third, number));
      }
      dueStill("isJoined() of the widest", widest(), "true", y -> y.isJoined(first, second, third, 0));
    }
  }

  private static void isJoinedWithoutAnswers() {
    for (int without = 0; without < 3; without++) {
      Partarrows x = used();
      x.plain(without, VOID, 0);
      dueStill("isJoined() where one has none", x, "true", y -> y.isJoined(0, 1, 2, 2));
    }
  }

  private static void isMappedOfAll() {
    for (int number : new int[] {MIN, MIN + 1, -1, 0, 6, MAX}) {
      for (int k = 0; k < 16; k++) {
        int map = k / 4;
        int other = k % 4;
        Partarrows x = used();
        x.box(2, number);
        dueStill("isMapped() of " + number, x, "true", y -> y.isMapped(2, map, MIN, other, MAX));
      }
    }
  }

  private static void isMappedOfEmpty() {
    for (int k = 0; k < 16; k++) {
      int map = k / 4;
      int other = k % 4;
      dueStill("isMapped() of an empty one", used(), "true", x -> x.isMapped(3, map, 5, other, 5));
    }
  }

  public static void main(String[] args) {
    test("4. Traces: each PLAIN ARROW leaves a MARK", AskEdgesTest::marksOfArrows);
    test("4. Traces: but UNIT", AskEdgesTest::noMarkOfUnit);
    test("4. Traces: each TEST leaves a MARK", AskEdgesTest::marksOfTests);
    test("4. Traces: each MAP leaves a MARK", AskEdgesTest::marksOfMaps);
    test("4. Traces: behind those that are there", AskEdgesTest::marksBehindThoseThere);
    test("4. Traces: none at first", AskEdgesTest::noneAtFirst);
    test("4. Traces: each of these begins it anew", AskEdgesTest::beginsAnew);
    test("4. Traces: also if nothing is asked: it has none then", AskEdgesTest::noneIfNothingIsAsked);
    test("4. Traces: no other call changes it", AskEdgesTest::noOtherCallChangesIt);
    test("4. Traces: no call that is refused changes it", AskEdgesTest::refusedKeepsIt);
    test("Promise 28: the answer by its digits", AskEdgesTest::askByDigits);
    test("Promise 28: \"\" without one", AskEdgesTest::askWithoutOne);
    test("Promise 29: an EMPTY BOX becomes the answer", AskEdgesTest::askIntoEmpty);
    test("Promise 29: a BOX becomes the answer that is EMPTY", AskEdgesTest::askIntoWithoutOne);
    test("Promise 29: a full BOX becomes the answer", AskEdgesTest::askIntoOverFull);
    test("Promise 30: with \" \" between", AskEdgesTest::traceOfOne);
    test("Promises 30 and 31: the most MARKS", AskEdgesTest::traceOfMost);
    test("Promise 30: the longest trace", AskEdgesTest::longestTrace);
    test("Promise 35: of no numbers", AskEdgesTest::domainOfNone);
    test("Promise 35: of the numbers from low on, so many", AskEdgesTest::domainOfMany);
    test("Promise 35: those above 2147483647 are left out", AskEdgesTest::domainAboveAll);
    test("Promise 35: left out, and not gone round", AskEdgesTest::domainGoesNotRound);
    test("Promise 35: of how many it has an answer", AskEdgesTest::domainOfTable);
    test("Promise 35: TRACE stays", AskEdgesTest::domainStays);
    test("Promise 36: with no numbers", AskEdgesTest::areSameOfNone);
    test("Promise 36: with each of these numbers", AskEdgesTest::areSameUpTo);
    test("Promise 36: those above 2147483647 are left out", AskEdgesTest::areSameAboveAll);
    test("Promise 36: left out, and not gone round", AskEdgesTest::areSameGoesNotRound);
    test("Promise 36: ALIKE answers, also where MARKS are held", AskEdgesTest::areSameOfMarksAlone);
    test("Promise 36: both have ALIKE answers", AskEdgesTest::areSameWithoutAnswers);
    test("Promise 36: and the same MARKS", AskEdgesTest::areSameTraced);
    test("Promise 36: in the same sequence", AskEdgesTest::areSameInSequence);
    test("Promise 36: the numbers of the MARKS", AskEdgesTest::areSameOfNumbers);
    test("Promise 36: the MARKS without an answer", AskEdgesTest::areSameMarksWithoutAnswer);
    test("Promise 36: the same MARKS, all of them", AskEdgesTest::areSameOfMost);
    test("Promise 36: TRACE stays", AskEdgesTest::areSameStays);
    test("Promise 37: what is put together may have more PARTS", AskEdgesTest::isUnitOfAll);
    test("Promise 38: what is put together may have more PARTS", AskEdgesTest::isJoinedOfAll);
    test("Promise 38: where one has no answer", AskEdgesTest::isJoinedWithoutAnswers);
    test("Promise 39: the same as through both at once", AskEdgesTest::isMappedOfAll);
    test("Promise 39: an EMPTY BOX", AskEdgesTest::isMappedOfEmpty);
    end();
  }
}
