/** A test of each promise of the document with ordinary inputs; ThrowsTest has the wrong ones. */
public final class PromisesTest extends Check {
  private static void promise1() {
    Partarrows x = new Partarrows();
    for (int k = 0; k < 4; k++) {
      due("isEmpty() of a new object", x.isEmpty(k), true);
      due("text() of a new object", x.text(k), "unit");
      due("parts() of a new object", x.parts(k), 1);
      due("deep() of a new object", x.deep(k), 1);
    }
    int[] house = {0, 0, 4, 0, 0, 0};
    for (int what = 0; what < 6; what++) {
      due("house(" + what + ") of a new object", x.house(what), house[what]);
    }
    due("trace() of a new object", x.trace(), "");
    due("traced() of a new object", x.traced(), 0);
    x.plain(0, TABLE, 0);
    due("the keys of a new object", x.domain(0, -5, 20), 0);
    Partarrows y = new Partarrows();
    due("a new object beside a used one", y.text(0), "unit");
  }

  private static void promise2() {
    Partarrows x = new Partarrows();
    due("box() of an empty one", x.box(0, 5), 1);
    due("box() of a full one", x.box(0, -7), 0);
    due("its number", x.number(0), "-7");
    due("box(3, MIN)", x.box(3, MIN), 1);
    due("box(3, MAX)", x.box(3, MAX), 0);
    due("its number", x.orElse(3, 0), MAX);
    due("the others", x.isEmpty(1) && x.isEmpty(2), true);
    due("box() with -1", x.box(1, -1), 1);
    due("box() behind -1", x.box(1, 0), 0);
  }

  private static void promise3() {
    Partarrows x = new Partarrows();
    due("maybe() that is there", x.maybe(2, 9, true), 1);
    due("its number", x.number(2), "9");
    due("maybe() that is not there", x.maybe(2, 4, false), 0);
    due("it is empty then", x.isEmpty(2), true);
    due("maybe() of an empty one", x.maybe(2, 4, false), 1);
    due("it stays empty", x.isEmpty(2), true);
    due("maybe() over a number", x.maybe(2, MIN, true) * 10 + x.maybe(2, MAX, true), 10);
    due("its number", x.number(2), "2147483647");
  }

  private static void promise4() {
    Partarrows x = new Partarrows();
    x.box(0, 0);
    x.box(1, 1);
    due("none() of a full one", x.none(0), 0);
    due("it is empty", x.isEmpty(0), true);
    due("none() of an empty one", x.none(0), 1);
    due("it stays empty", x.isEmpty(0), true);
    due("the other one", x.isThere(1), true);
  }

  private static void promise5() {
    Partarrows x = new Partarrows();
    x.box(0, 5);
    x.box(1, 6);
    due("copy() of an unlike one", x.copy(0, 1), 0);
    due("the number then", x.number(0), "6");
    due("the other one's number", x.number(1), "6");
    due("copy() of an alike one", x.copy(0, 1), 1);
    due("copy() of the same", x.copy(1, 1), 1);
    due("copy() of two empty ones", x.copy(2, 3), 1);
    due("copy() of an empty one", x.copy(0, 2), 0);
    due("it is empty then", x.isEmpty(0), true);
    due("copy() to an empty one", x.copy(2, 1), 0);
    x.box(1, 8);
    due("a copy stays as it was", x.number(2), "6");
    x.box(0, 0);
    x.none(3);
    due("copy() of an empty one over 0", x.copy(0, 3), 0);
  }

  private static void promises6And7() {
    Partarrows x = new Partarrows();
    dueLook(x, "isThere() of an empty one", false, it -> it.isThere(3));
    dueLook(x, "isEmpty() of an empty one", true, it -> it.isEmpty(3));
    for (int number : new int[] {0, -1, -9, MIN, MAX}) {
      x.box(3, number);
      dueLook(x, "isThere() with " + number, true, it -> it.isThere(3));
      dueLook(x, "isEmpty() with " + number, false, it -> it.isEmpty(3));
    }
    due("isThere() of another one", x.isThere(0), false);
  }

  private static void promise8() {
    Partarrows x = new Partarrows();
    due("number() of an empty one", x.number(0), "!");
    due("it is counted", x.house(4), 1);
    x.number(0);
    due("it is counted again", x.house(4), 2);
    int[] numbers = {0, 10, -1, -9, -305, MAX, MIN};
    String[] texts = {"0", "10", "-1", "-9", "-305", "2147483647", "-2147483648"};
    for (int i = 0; i < numbers.length; i++) {
      x.box(1, numbers[i]);
      dueLook(x, "number() of " + numbers[i], texts[i], it -> it.number(1));
    }
    due("numbers are not counted", x.house(4), 2);
  }

  private static void promise9() {
    Partarrows x = new Partarrows();
    dueLook(x, "orElse() of an empty one", 12, it -> it.orElse(0, 12));
    dueLook(x, "orElse() of an empty one with -9", -9, it -> it.orElse(0, -9));
    due("a number -9 is no refusal", x.house(4), 0);
    x.box(0, 3);
    dueLook(x, "orElse() of a full one", 3, it -> it.orElse(0, 12));
    x.box(0, MIN);
    dueLook(x, "orElse() of MIN", MIN, it -> it.orElse(0, MAX));
  }

  private static void promise10() {
    Partarrows x = new Partarrows();
    dueLook(x, "areAlike() of two empty ones", true, it -> it.areAlike(0, 1));
    x.box(0, 0);
    dueLook(x, "areAlike() of 0 and an empty one", false, it -> it.areAlike(0, 1));
    dueLook(x, "areAlike() of an empty one and 0", false, it -> it.areAlike(1, 0));
    x.box(1, 0);
    dueLook(x, "areAlike() of 0 and 0", true, it -> it.areAlike(0, 1));
    x.box(0, 100000);
    x.box(1, 100000);
    dueLook(x, "areAlike() of two great numbers", true, it -> it.areAlike(0, 1));
    x.box(1, 100001);
    dueLook(x, "areAlike() of two numbers", false, it -> it.areAlike(0, 1));
    dueLook(x, "areAlike() of one and itself", true, it -> it.areAlike(1, 1));
  }

  private static void promise11() {
    Partarrows x = new Partarrows();
    x.box(0, 17);
    due("visit() of a full one", x.visit(0), 1);
    due("visited", x.house(3), 17);
    due("visit() of an empty one", x.visit(1), 0);
    due("visited stays", x.house(3), 17);
    due("the box stays", x.number(0), "17");
  }

  private static void promise12() {
    Partarrows x = new Partarrows();
    due("visitElse() of an empty one", x.visitElse(1), 0);
    due("visited is 1 less", x.house(3), -1);
    x.visitElse(1);
    due("visited is 1 less again", x.house(3), -2);
    x.box(0, MIN);
    due("visitElse() of a full one", x.visitElse(0), 1);
    due("visited", x.house(3), MIN);
    due("visitElse() of an empty one at MIN", x.visitElse(1), 0);
    due("visited goes round", x.house(3), MAX);
    due("the box stays empty", x.isEmpty(1), true);
  }

  private static void dueMap(int number, int map, int n, String want) {
    Partarrows x = new Partarrows();
    x.box(1, number);
    x.plain(0, JUST, 1);
    x.ask(0, 3);
    String what = number + " through the map " + map + " with " + n;
    due(what, x.map(1, map, n), want.isEmpty() ? 0 : 1);
    due(what + " is there", x.isThere(1), !want.isEmpty());
    due(what + " tells", want.isEmpty() ? "" : x.number(1), want);
    due(what + " leaves", x.trace(), "m" + map + ":" + number);
    due(what + " leaves so many", x.traced(), 1);
  }

  private static void promise13() {
    dueMap(5, PLUS, 3, "8");
    dueMap(MAX, PLUS, 1, "-2147483648");
    dueMap(MIN, PLUS, -1, "2147483647");
    dueMap(MIN, PLUS, MIN, "0");
    dueMap(5, TIMES, -3, "-15");
    dueMap(65536, TIMES, 65536, "0");
    dueMap(MIN, TIMES, -1, "-2147483648");
    dueMap(MAX, TIMES, 3, "2147483645");
    dueMap(5, TURN, 3, "-2");
    dueMap(MIN, TURN, 0, "-2147483648");
    dueMap(1, TURN, MIN, "2147483647");
    dueMap(10, HALVE, 3, "5");
    dueMap(-10, HALVE, 4, "-5");
    dueMap(MIN, HALVE, 0, "-1073741824");
    dueMap(0, HALVE, 1, "0");
    dueMap(7, HALVE, 2, "");
    dueMap(-1, HALVE, 2, "");

    Partarrows x = new Partarrows();
    x.plain(0, JUST, 1);
    x.ask(0, 3);
    due("map() of an empty one", x.map(0, PLUS, 3), 0);
    due("it stays empty", x.isEmpty(0), true);
    due("the trace begins anew", x.traced(), 0);
  }

  private static void dueFilter(int number, int test, int n, boolean isSo) {
    Partarrows x = new Partarrows();
    x.box(1, number);
    x.plain(0, JUST, 1);
    x.ask(0, 3);
    String what = number + " tested by " + test + " with " + n;
    due(what, x.filter(1, test, n), isSo ? 1 : 0);
    due(what + " is there", x.isThere(1), isSo);
    due(what + " tells", x.orElse(1, 77), isSo ? number : 77);
    due(what + " leaves", x.trace(), "t" + test + ":" + number);
  }

  private static void promise14() {
    dueFilter(4, EVEN, 3, true);
    dueFilter(-4, EVEN, 0, true);
    dueFilter(0, EVEN, 0, true);
    dueFilter(3, EVEN, 4, false);
    dueFilter(-3, EVEN, 4, false);
    dueFilter(MIN, EVEN, 4, true);
    dueFilter(MAX, EVEN, 4, false);
    dueFilter(3, IS_BELOW, 4, true);
    dueFilter(4, IS_BELOW, 4, false);
    dueFilter(5, IS_BELOW, 4, false);
    dueFilter(MIN, IS_BELOW, MAX, true);
    dueFilter(MAX, IS_BELOW, MIN, false);
    dueFilter(MIN, IS_BELOW, MIN, false);
    dueFilter(3, UNLIKE, 4, true);
    dueFilter(4, UNLIKE, 4, false);
    dueFilter(100000, UNLIKE, 100000, false);

    Partarrows x = new Partarrows();
    x.plain(0, JUST, 1);
    x.ask(0, 3);
    due("filter() of an empty one", x.filter(0, UNLIKE, 3), 0);
    due("it stays empty", x.isEmpty(0), true);
    due("the trace begins anew", x.traced(), 0);
  }

  private static void promise15() {
    Partarrows x = new Partarrows();
    x.plain(1, ADD, 3);
    x.plain(2, VOID, 0);
    x.box(0, 4);
    due("bind() with an answer", x.bind(0, 1), 1);
    due("the box is the answer", x.number(0), "7");
    due("it leaves", x.trace(), "a2:4");
    due("bind() to UNIT", x.bind(0, 0), 1);
    due("it leaves nothing", x.traced(), 0);
    due("the box stays", x.number(0), "7");
    due("bind() without an answer", x.bind(0, 2), 0);
    due("it is empty", x.isEmpty(0), true);
    due("it leaves", x.trace(), "a1:7");
    due("bind() of an empty one", x.bind(0, 1), 0);
    due("it stays empty", x.isEmpty(0), true);
    due("the trace begins anew", x.trace(), "");
  }

  private static void promise16() {
    Partarrows x = new Partarrows();
    x.plain(0, JUST, 1);
    x.box(1, 5);
    x.box(2, 6);
    x.ask(0, 3);
    due("orBox() of an empty one", x.orBox(0, 1), 1);
    due("it is as the other one", x.number(0), "5");
    due("the trace begins anew", x.trace(), "");
    due("the other one stays", x.number(1), "5");
    due("orBox() of a full one", x.orBox(0, 2), 1);
    due("it stays", x.number(0), "5");
    due("orBox() with an empty one", x.orBox(0, 3), 1);
    due("it stays", x.number(0), "5");
    x.none(2);
    due("orBox() of two empty ones", x.orBox(2, 3), 0);
    due("it stays empty", x.isEmpty(2), true);
    due("orBox() of an empty one and itself", x.orBox(3, 3), 0);
    due("orBox() of a full one and itself", x.orBox(0, 0), 1);
  }

  private static void promise17() {
    Partarrows x = new Partarrows();
    x.plain(0, HALF, 0);
    due("orArrow() of an empty one", x.orArrow(0, 0, 10), 1);
    due("it is the answer", x.number(0), "5");
    due("it leaves", x.trace(), "a3:10");
    due("orArrow() of a full one", x.orArrow(0, 0, 20), 1);
    due("it stays", x.number(0), "5");
    due("nothing is asked", x.traced(), 0);
    due("orArrow() without an answer", x.orArrow(1, 0, 9), 0);
    due("it is empty", x.isEmpty(1), true);
    due("it leaves", x.trace(), "a3:9");
  }

  private static void promise18() {
    Partarrows x = new Partarrows();
    x.plain(0, HALF, 0);
    due("orAsk() of an empty one", x.orAsk(0, 0, 10), 5);
    due("the box stays", x.isEmpty(0), true);
    due("it leaves", x.trace(), "a3:10");
    due("orAsk() without an answer", x.orAsk(0, 0, 9), -1);
    due("the box stays", x.isEmpty(0), true);
    due("it leaves", x.trace(), "a3:9");
    x.box(0, 7);
    due("orAsk() of a full one", x.orAsk(0, 0, 10), 7);
    due("nothing is asked", x.trace(), "");
    due("the box stays", x.number(0), "7");
    x.plain(1, JUST, -9);
    due("orAsk() that tells a number -9", x.orAsk(1, 1, 0), -9);
    due("a number -9 is no refusal", x.house(4), 0);
  }

  private static void duePlain(int kind, int n, int x, String want) {
    Partarrows it = new Partarrows();
    it.lay(0, 40);
    it.lay(9, MIN);
    String what = "the plain one " + kind + " with " + n;
    due(what, it.plain(2, kind, n), 1);
    due(what + " asked with " + x, it.ask(2, x), want);
    due(what + " asked with " + x + " leaves", it.trace(), kind == UNIT ? "" : "a" + kind + ":" + x);
    due(what + " has parts", it.parts(2), 1);
    due(what + " is deep", it.deep(2), 1);
  }

  private static void promise19() {
    duePlain(UNIT, 3, 5, "5");
    duePlain(UNIT, 3, MIN, "-2147483648");
    duePlain(VOID, 3, 5, "");
    duePlain(ADD, 3, 5, "8");
    duePlain(ADD, -3, 3, "0");
    duePlain(ADD, 1, MAX, "");
    duePlain(ADD, 1, MAX - 1, "2147483647");
    duePlain(ADD, -1, MIN, "");
    duePlain(ADD, -1, MIN + 1, "-2147483648");
    duePlain(HALF, 3, 6, "3");
    duePlain(HALF, 3, 5, "");
    duePlain(HALF, 3, -5, "");
    duePlain(HALF, 3, -6, "-3");
    duePlain(HALF, 3, MIN, "-1073741824");
    duePlain(HALF, 3, 0, "0");
    duePlain(OVER, 7, 2, "3");
    duePlain(OVER, -7, 2, "-3");
    duePlain(OVER, 7, -2, "-3");
    duePlain(OVER, 2, 7, "0");
    duePlain(OVER, 7, 0, "");
    duePlain(OVER, 0, 0, "");
    duePlain(OVER, 0, 5, "0");
    duePlain(OVER, MIN, -1, "");
    duePlain(OVER, MIN, 1, "-2147483648");
    duePlain(OVER, MAX, -1, "-2147483647");
    duePlain(OVER, MIN, MIN, "1");
    duePlain(BELOW, 5, 4, "4");
    duePlain(BELOW, 5, 5, "");
    duePlain(BELOW, 5, 6, "");
    duePlain(BELOW, MAX, MIN, "-2147483648");
    duePlain(BELOW, MIN, MIN, "");
    duePlain(BELOW, MIN, MAX, "");
    duePlain(TABLE, 3, 0, "40");
    duePlain(TABLE, 3, 9, "-2147483648");
    duePlain(TABLE, 3, 5, "");
    duePlain(TABLE, 3, -1, "");
    duePlain(TABLE, 3, 10, "");
    duePlain(TABLE, 3, MIN, "");
    duePlain(TABLE, 3, MAX, "");
    duePlain(JUST, 3, 5, "3");
    duePlain(JUST, -9, 5, "-9");
    duePlain(JUST, MIN, MAX, "-2147483648");

    Partarrows y = used();
    due("plain() over a made one", y.plain(3, JUST, 1), 1);
    due("plain() keeps the trace", y.trace(), "a6:6 a3:6");
    due("plain() changes that one alone", y.text(0) + y.text(1) + y.text(2), "add3tablehalf");
  }

  private static void promise20() {
    Partarrows x = used();
    due("copyArrow()", x.copyArrow(0, 3), 2);
    due("it is as the other one", x.text(0), "(table|half)");
    due("it is as deep", x.deep(0), 2);
    x.plain(3, JUST, 4);
    due("a copy stays as it was", x.text(0), "(table|half)");
    due("it answers as that did", x.ask(0, 2), "7");
    due("copyArrow() of the same", x.copyArrow(0, 0), 2);
    due("it stays", x.text(0), "(table|half)");
    due("copyArrow() of a plain one", x.copyArrow(0, 2), 1);
  }

  private static void promise21() {
    Partarrows x = new Partarrows();
    x.plain(0, ADD, 3);
    x.plain(1, OVER, 100);
    x.ask(0, 1);
    due("then()", x.then(2, 0, 1), 2);
    due("then() keeps the trace", x.trace(), "a2:1");
    due("its text", x.text(2), "(add3;over100)");
    due("how deep", x.deep(2), 2);
    due("both asked", x.ask(2, 7), "10");
    due("they leave", x.trace(), "a2:7 a4:10");
    due("the second without an answer", x.ask(2, -3), "");
    due("they leave", x.trace(), "a2:-3 a4:0");
    due("the first without an answer", x.ask(2, MAX), "");
    due("the second is not asked", x.trace(), "a2:2147483647");
    due("then() of itself", x.then(0, 0, 0), 2);
    due("its text", x.text(0), "(add3;add3)");
    due("what was made of it stays", x.text(2), "(add3;over100)");
    due("then() of parts of unlike depths", x.then(3, 1, 0) * 10 + x.deep(3), 33);
    due("then() the other way", x.then(3, 0, 1) * 10 + x.deep(3), 33);
  }

  private static void promise22() {
    Partarrows x = new Partarrows();
    x.plain(0, HALF, 0);
    x.plain(1, BELOW, 10);
    x.ask(0, 1);
    due("otherwise()", x.otherwise(2, 0, 1), 2);
    due("otherwise() keeps the trace", x.trace(), "a3:1");
    due("its text", x.text(2), "(half|below10)");
    due("how deep", x.deep(2), 2);
    due("the first has an answer", x.ask(2, 8), "4");
    due("the second is not asked", x.trace(), "a3:8");
    due("the second has one", x.ask(2, 7), "7");
    due("both are asked with the same", x.trace(), "a3:7 a5:7");
    due("none has one", x.ask(2, 11), "");
    due("both are asked", x.trace(), "a3:11 a5:11");
    due("otherwise() of parts of unlike depths", x.otherwise(3, 1, 2) * 10 + x.deep(3), 33);
    due("otherwise() the other way", x.otherwise(3, 2, 1) * 10 + x.deep(3), 33);
    x.plain(3, VOID, 0);
    x.then(3, 1, 3);
    x.otherwise(3, 3, 0);
    due("the marks of one that fails stay", x.ask(3, 4) + " " + x.trace(), "2 a5:4 a1:4 a3:4");
  }

  private static void promise23() {
    Partarrows x = new Partarrows();
    x.plain(0, ADD, 3);
    x.ask(0, 1);
    due("when()", x.when(1, IS_BELOW, 5, 0), 1);
    due("when() keeps the trace", x.trace(), "a2:1");
    due("its text", x.text(1), "[1,5]add3");
    due("how deep", x.deep(1), 2);
    due("where it is so", x.ask(1, 4), "7");
    due("it leaves", x.trace(), "t1:4 a2:4");
    due("where it is not so", x.ask(1, 5), "");
    due("the one is not asked", x.trace(), "t1:5");
    due("when() of itself", x.when(1, EVEN, -7, 1), 1);
    due("its text", x.text(1), "[0,-7][1,5]add3");
    due("asked", x.ask(1, -4) + " " + x.trace(), "-1 t0:-4 t1:-4 a2:-4");
    due("asked", x.ask(1, -3) + " " + x.trace(), " t0:-3");
    due("when() of UNLIKE", x.when(2, UNLIKE, 6, 3), 1);
    due("asked", x.ask(2, 6) + x.ask(2, 7) + " " + x.trace(), "7 t2:7");
    x.then(3, 0, 0);
    due("when() of two parts", x.when(3, EVEN, 0, 3) * 10 + x.deep(3), 23);
    due("when() 4 deep", x.when(1, EVEN, 0, 1) * 10 + x.deep(1), 14);
    due("when() 5 deep", x.when(1, EVEN, 0, 1) * 10 + x.deep(1), 15);
    due("when() 6 deep", x.when(1, EVEN, 0, 1) * 10 + x.deep(1), 16);
    dueRefused("when() 7 deep", x, it -> it.when(1, EVEN, 0, 1));
    dueRefused("when() 7 deep", x, it -> it.when(0, EVEN, 0, 1));
  }

  private static void promise24() {
    Partarrows x = new Partarrows();
    x.plain(0, BELOW, 10);
    x.ask(0, 1);
    due("mapped()", x.mapped(1, 0, TURN, 5), 1);
    due("mapped() keeps the trace", x.trace(), "a5:1");
    due("its text", x.text(1), "below10{2,5}");
    due("how deep", x.deep(1), 2);
    due("with an answer", x.ask(1, 4), "1");
    due("it leaves", x.trace(), "a5:4 m2:4");
    due("without an answer", x.ask(1, 10), "");
    due("the map is not asked", x.trace(), "a5:10");
    due("mapped() of itself", x.mapped(1, 1, HALVE, -2), 1);
    due("its text", x.text(1), "below10{2,5}{3,-2}");
    due("asked", x.ask(1, -5) + " " + x.trace(), "5 a5:-5 m2:-5 m3:10");
    due("where the map has none", x.ask(1, 4) + " " + x.trace(), " a5:4 m2:4 m3:1");
    x.mapped(2, 2, PLUS, 1);
    due("a map wraps around", x.ask(2, MAX) + " " + x.trace(), "-2147483648 m0:2147483647");
    x.mapped(2, 3, TIMES, 3);
    due("a map of TIMES", x.ask(2, -7) + " " + x.trace(), "-21 m1:-7");
    x.then(3, 0, 0);
    due("mapped() of two parts", x.mapped(3, 3, PLUS, 0) * 10 + x.deep(3), 23);
    due("mapped() 4 deep", x.mapped(1, 1, PLUS, 0) * 10 + x.deep(1), 14);
    due("mapped() 5 deep", x.mapped(1, 1, PLUS, 0) * 10 + x.deep(1), 15);
    due("mapped() 6 deep", x.mapped(1, 1, PLUS, 0) * 10 + x.deep(1), 16);
    dueRefused("mapped() 7 deep", x, it -> it.mapped(1, 1, PLUS, 0));
    dueRefused("mapped() 7 deep", x, it -> it.mapped(0, 1, PLUS, 0));
  }

  private static void promise25() {
    Partarrows x = new Partarrows();
    x.plain(0, ADD, 3);
    x.plain(1, JUST, 1);
    x.ask(0, 1);
    due("power() of 0", x.power(1, 0, 0), 1);
    due("its text", x.text(1), "unit");
    due("power() keeps the trace", x.trace(), "a2:1");
    due("power() of 1", x.power(1, 0, 1), 1);
    due("its text", x.text(1), "add3");
    due("how deep", x.deep(1), 1);
    due("power() of 2", x.power(1, 0, 2), 2);
    due("its text", x.text(1), "(add3;add3)");
    due("power() of 3", x.power(1, 0, 3), 3);
    due("its text", x.text(1), "((add3;add3);add3)");
    due("how deep", x.deep(1), 3);
    due("asked", x.ask(1, 1) + " " + x.trace(), "10 a2:1 a2:4 a2:7");
    due("power() of 6", x.power(1, 0, 6), 6);
    due("how deep", x.deep(1), 6);
    dueRefused("power() of 7", x, it -> it.power(1, 0, 7));
    dueRefused("power() of 12", x, it -> it.power(2, 0, 12));
    due("power() of 0 of the deepest", x.power(2, 1, 0), 1);
    due("power() of 1 of the deepest", x.power(2, 1, 1), 6);
    dueRefused("power() of 2 of the deepest", x, it -> it.power(2, 1, 2));
    x.then(2, 0, 0);
    x.then(2, 2, 2);
    due("power() of 3 with 4 parts", x.power(3, 2, 3), 12);
    due("how deep", x.deep(3), 5);
    dueRefused("power() of 4 with 4 parts", x, it -> it.power(3, 2, 4));
    due("power() of itself", x.power(2, 2, 2), 8);
    due("its text", x.text(2), "(((add3;add3);(add3;add3));((add3;add3);(add3;add3)))");
  }

  private static void promises26And27() {
    Partarrows x = new Partarrows();
    x.plain(0, TABLE, 0);
    x.ask(0, 1);
    for (int key = 0; key < 10; key++) {
      due("lay() of " + key, x.lay(key, key * 3), 0);
      due("asked with " + key, x.ask(0, key), "" + key * 3);
      due("lay() again", x.lay(key, -key), 1);
      due("asked with " + key, x.ask(0, key), "" + -key);
      due("how many keys", x.house(1), key + 1);
    }
    for (int key = 9; key >= 0; key--) {
      due("lift() of " + key, x.lift(key), 1);
      due("asked with " + key, x.ask(0, key), "");
      due("lift() again", x.lift(key), 0);
      due("how many keys", x.house(1), key);
    }
    due("lay() of MIN", x.lay(4, MIN) + " " + x.ask(0, 4), "0 -2147483648");
    x.lay(5, 1);
    due("lay() and lift() keep the trace", x.lift(5) + " " + x.trace(), "1 a6:4");
  }

  private static void promise28() {
    Partarrows x = new Partarrows();
    due("ask() of UNIT", x.ask(0, -5), "-5");
    due("it leaves nothing", x.traced(), 0);
    x.plain(1, ADD, 2);
    due("ask()", x.ask(1, -5), "-3");
    due("it leaves", x.trace(), "a2:-5");
    due("ask() again", x.ask(1, 7), "9");
    due("the trace begins anew", x.trace(), "a2:7");
    due("ask() without an answer", x.ask(1, MAX), "");
    due("no refusal is counted", x.house(4), 0);
    due("ask() of UNIT", x.ask(0, MIN), "-2147483648");
    due("it leaves nothing", x.trace(), "");
  }

  private static void promise29() {
    Partarrows x = new Partarrows();
    x.plain(1, HALF, 2);
    due("askInto()", x.askInto(2, 1, 6), 1);
    due("the box", x.number(2), "3");
    due("it leaves", x.trace(), "a3:6");
    due("askInto() of a full one", x.askInto(2, 1, 8), 1);
    due("the box", x.number(2), "4");
    due("it leaves", x.trace(), "a3:8");
    due("askInto() without an answer", x.askInto(2, 1, 7), 0);
    due("the box is empty", x.isEmpty(2), true);
    due("it leaves", x.trace(), "a3:7");
  }

  private static void promises30And31() {
    Partarrows x = widest();
    due("asked", x.ask(2, 0), "12");
    dueLook(x, "traced()", 28, it -> it.traced());
    String half = "a2:0 m0:1 m0:1 a2:1 m0:2 a2:2 m0:3 a2:3 m0:4 m0:4 a2:4 m0:5 a2:5 m0:6";
    String rest = "a2:6 m0:7 m0:7 a2:7 m0:8 a2:8 m0:9 a2:9 m0:10 m0:10 a2:10 m0:11 a2:11 m0:12";
    dueLook(x, "trace()", half + " " + rest, it -> it.trace());

    Partarrows y = new Partarrows();
    y.plain(0, JUST, MIN);
    y.when(1, UNLIKE, 3, 0);
    y.mapped(1, 1, TIMES, 1);
    y.ask(1, -3);
    due("trace() of all three sorts", y.trace(), "t2:-3 a7:-3 m1:-2147483648");
    due("traced() of all three sorts", y.traced(), 3);

    Partarrows z = used();
    String trace = z.trace();
    due("the trace ahead", trace, "a6:6 a3:6");
    z.box(2, 1);
    z.maybe(2, 1, false);
    z.none(2);
    z.copy(2, 0);
    z.visit(0);
    z.visitElse(3);
    z.number(3);
    z.power(3, 0, 2);
    z.lay(1, 1);
    z.lift(1);
    z.domain(3, 0, 20);
    z.areSame(3, 0, 0, 20, true);
    z.isUnit(3, 1);
    z.isJoined(0, 1, 2, 3);
    z.isMapped(0, 0, 1, 2, 3);
    z.knock();
    z.isSound();
    z.digest();
    due("the trace behind other calls", z.trace(), trace);
    due("how many behind other calls", z.traced(), 2);
  }

  private static void promises32To34() {
    Partarrows x = new Partarrows();
    String[] words = {"unit", "void", "add-3", "half", "over-3", "below-3", "table", "just-3"};
    for (int kind = 0; kind < 8; kind++) {
      x.plain(1, kind, -3);
      dueLook(x, "text() of kind " + kind, words[kind], it -> it.text(1));
      dueLook(x, "parts() of kind " + kind, 1, it -> it.parts(1));
      dueLook(x, "deep() of kind " + kind, 1, it -> it.deep(1));
    }
    x.plain(0, HALF, 0);
    x.plain(1, JUST, 0);
    x.mapped(1, 1, TURN, 5);
    x.otherwise(0, 0, 1);
    x.when(0, IS_BELOW, 9, 0);
    x.plain(1, ADD, -3);
    x.then(2, 1, 0);
    dueLook(x, "text()", "(add-3;[1,9](half|just0{2,5}))", it -> it.text(2));
    dueLook(x, "parts()", 3, it -> it.parts(2));
    dueLook(x, "deep()", 5, it -> it.deep(2));
    x.plain(3, OVER, MIN);
    x.mapped(3, 3, HALVE, MAX);
    dueLook(x, "text() of great numbers", "over-2147483648{3,2147483647}", it -> it.text(3));
  }

  private static void promise35() {
    Partarrows x = used();
    dueLook(x, "domain() of HALF", 10, it -> it.domain(2, -7, 20));
    dueLook(x, "domain() of HALF", 1, it -> it.domain(2, 0, 1));
    dueLook(x, "domain() of HALF", 0, it -> it.domain(2, 1, 1));
    dueLook(x, "domain() of none", 0, it -> it.domain(2, 0, 0));
    dueLook(x, "domain() of TABLE", 2, it -> it.domain(1, -5, 20));
    dueLook(x, "domain() up to MAX", 2, it -> it.domain(2, MAX - 3, 4));
    dueLook(x, "domain() above MAX", 2, it -> it.domain(2, MAX - 3, 20));
    dueLook(x, "domain() at MAX", 0, it -> it.domain(2, MAX, 20));
    dueLook(x, "domain() of ADD at MAX", 1, it -> it.domain(0, MAX - 3, 20));
    dueLook(x, "domain() at MIN", 3, it -> it.domain(2, MIN, 5));
    x.plain(2, UNIT, 0);
    dueLook(x, "domain() of UNIT at MAX", 1, it -> it.domain(2, MAX, 20));
    dueLook(x, "domain() of UNIT", 20, it -> it.domain(2, -4, 20));
  }

  private static void promise36() {
    Partarrows x = used();
    dueLook(x, "areSame() of one and itself", true, it -> it.areSame(3, 3, -7, 20, true));
    x.plain(1, ADD, 3);
    dueLook(x, "areSame() of two alike", true, it -> it.areSame(0, 1, -7, 20, true));
    x.plain(1, ADD, 4);
    dueLook(x, "areSame() of two unlike", false, it -> it.areSame(0, 1, 5, 1, false));
    dueLook(x, "areSame() of no number", true, it -> it.areSame(0, 1, 5, 0, true));
    dueLook(x, "areSame() where both have none", true, it -> it.areSame(0, 1, MAX, 20, true));
    dueLook(x, "areSame() up to where one has none", false, it -> it.areSame(0, 1, MAX - 3, 20, false));

    Partarrows y = new Partarrows();
    y.mapped(1, 0, PLUS, 0);
    dueLook(y, "areSame() of unlike marks", false, it -> it.areSame(0, 1, 0, 1, true));
    dueLook(y, "areSame() of answers alone", true, it -> it.areSame(0, 1, -7, 20, false));
    y.plain(2, BELOW, 5);
    dueLook(y, "areSame() ahead of the edge", true, it -> it.areSame(0, 2, 0, 5, false));
    dueLook(y, "areSame() behind the edge", false, it -> it.areSame(0, 2, 0, 6, false));
    dueLook(y, "areSame() at MAX", false, it -> it.areSame(0, 2, MAX, 1, false));
    y.when(3, EVEN, 0, 0);
    y.when(1, UNLIKE, MIN, 0);
    dueLook(y, "areSame() of marks of two kinds", false, it -> it.areSame(1, 3, 2, 1, true));
    dueLook(y, "areSame() of their answers", true, it -> it.areSame(1, 3, 2, 1, false));
    y.mapped(1, 0, PLUS, 0);
    dueLook(y, "areSame() of marks of two sorts", false, it -> it.areSame(1, 3, 2, 1, true));
    y.then(3, 3, 1);
    y.when(2, EVEN, 0, 0);
    y.then(2, 1, 2);
    dueLook(y, "areSame() of marks in another sequence", false, it -> it.areSame(2, 3, 2, 1, true));
    dueLook(y, "areSame() of their answers", true, it -> it.areSame(2, 3, 2, 1, false));
    y.plain(1, JUST, 4);
    y.mapped(3, 0, PLUS, 2);
    y.then(3, 3, 1);
    y.mapped(2, 0, PLUS, 1);
    y.then(2, 2, 1);
    dueLook(y, "areSame() of marks with other numbers", false, it -> it.areSame(2, 3, 2, 1, true));
    dueLook(y, "areSame() of their answers", true, it -> it.areSame(2, 3, 2, 1, false));
    y.plain(1, VOID, 0);
    y.plain(2, BELOW, 0);
    dueLook(y, "areSame() where none has one", false, it -> it.areSame(1, 2, 0, 20, true));
    dueLook(y, "areSame() where none has one", true, it -> it.areSame(1, 2, 0, 20, false));
    y.plain(1, JUST, 0);
    dueLook(y, "areSame() of 0 and none", false, it -> it.areSame(1, 2, 0, 1, false));

    Partarrows z = widest();
    z.copyArrow(3, 2);
    dueLook(z, "areSame() of the widest", true, it -> it.areSame(2, 3, 0, 20, true));
    z.then(3, 1, 1);
    dueLook(z, "areSame() of a longer and a shorter one", false, it -> it.areSame(2, 3, 0, 1, true));
  }

  private static void promise36OneMarkMore() {
    Partarrows x = new Partarrows();
    x.plain(0, VOID, 0);
    x.otherwise(1, 0, 0);
    dueLook(x, "areSame() of 1 mark and 2", false, it -> it.areSame(0, 1, 0, 1, true));
    dueLook(x, "areSame() of 2 marks and 1", false, it -> it.areSame(1, 0, 0, 1, true));
    dueLook(x, "areSame() of their answers", true, it -> it.areSame(1, 0, 0, 1, false));
  }

  private static void promises37And38() {
    Partarrows x = used();
    Partarrows y = widest();
    for (int number : new int[] {-1, 0, 2, 6, MAX, MIN}) {
      for (int k = 0; k < 4; k++) {
        int arrow = k;
        dueLook(x, "isUnit(" + k + ", " + number + ")", true, it -> it.isUnit(arrow, number));
        dueLook(y, "isUnit(" + k + ", " + number + ")", true, it -> it.isUnit(arrow, number));
        for (int j = 0; j < 4; j++) {
          int second = j;
          dueLook(x, "isJoined() from " + k, true, it -> it.isJoined(arrow, second, 3, number));
          dueLook(y, "isJoined() of wide ones", true, it -> it.isJoined(2, arrow, second, number));
        }
      }
    }
    dueLook(y, "isJoined() of the widest", true, it -> it.isJoined(2, 2, 2, 0));
    due("nothing is refused", y.house(4), 0);
  }

  private static void promise39() {
    for (int number : new int[] {0, 5, 6, -1, MIN, MAX}) {
      Partarrows x = used();
      x.box(0, number);
      for (int map = 0; map < 4; map++) {
        for (int other = 0; other < 4; other++) {
          int first = map;
          int second = other;
          dueLook(x, "isMapped() of " + number, true, it -> it.isMapped(0, first, 3, second, -7));
          dueLook(x, "isMapped() of an empty one", true, it -> it.isMapped(2, first, MAX, second, MIN));
        }
      }
    }
  }

  private static void promise40() {
    Partarrows x = used();
    int[] house = {2, 2, 5, 5, 1, 1};
    for (int i = 0; i < 6; i++) {
      int what = i;
      dueLook(x, "house(" + what + ")", house[what], it -> it.house(what));
    }
    x.box(2, 0);
    x.box(3, -1);
    due("all boxes", x.house(0), 4);
    x.lay(0, -1);
    due("keys", x.house(1), 3);
    x.power(0, 0, 4);
    due("parts", x.house(2), 8);
    dueRefused("power() of 12", x, it -> it.power(0, 0, 12));
    x.none(3);
    x.number(3);
    due("how often -9 or ! was told", x.house(4), 3);
  }

  private static void promise41() {
    Partarrows x = new Partarrows();
    for (int times = 1; times <= 5; times++) {
      due("knock()", x.knock(), times);
      due("how often one knocked", x.house(5), times);
    }
    due("another object's", new Partarrows().knock(), 1);
  }

  private static void promise42() {
    Partarrows x = new Partarrows();
    dueLook(x, "isSound() of a new object", true, it -> it.isSound());
    Partarrows y = used();
    dueLook(y, "isSound() of a used one", true, it -> it.isSound());
    int[] numbers = {0, MIN, MAX, -9};
    for (int box = 0; box < 4; box++) y.box(box, numbers[box]);
    dueLook(y, "isSound() of other boxes", true, it -> it.isSound());
    Partarrows z = widest();
    z.copyArrow(0, 2);
    z.copyArrow(1, 2);
    z.copyArrow(3, 2);
    dueLook(z, "isSound() of the widest", true, it -> it.isSound());
    z.plain(0, VOID, 0);
    z.otherwise(0, 0, 0);
    z.copyArrow(1, 0);
    z.copyArrow(2, 0);
    dueLook(z, "isSound() where there is no answer", true, it -> it.isSound());
    due("nothing is counted", z.house(4), 0);
  }

  private static long mix(long d, String signs) {
    for (char sign : signs.toCharArray()) d = d * 31 + sign;
    return d;
  }

  private static long mix(long d, long... vs) {
    for (long v : vs) d = d * 31 + v;
    return d;
  }

  private static void promise43() {
    Partarrows x = used();
    dueLook(x, "digest()", dueDigest(), it -> it.digest());
    due("digest() twice", x.digest() == x.digest(), true);

    long d = mix(7841L, 0, 0, 4, 0, 0, 0);
    d = mix(d, new long[28]);
    d = mix(d, 0);
    for (int arrow = 0; arrow < 4; arrow++) d = mix(mix(mix(d, 1, 1), "unit"), "-106");
    due("digest() of a new object", new Partarrows().digest(), mix(d, 1));
  }

  /** What digest() of used() is, put together by hand. */
  private static long dueDigest() {
    long d = mix(7841L, 2, 2, 5, 5, 1, 1);
    d = mix(d, 1, 5, 1, -8, 0, 0, 0, 0);
    d = mix(d, 0, 0, 0, 0, 1, 7, 0, 0, 0, 0, 0, 0, 0, 0, 0, 0, 0, 0, 1, -3);
    d = mix(mix(d, 2), "a6:6 a3:6");
    d = mix(mix(mix(d, 1, 1), "add3"), "239");
    d = mix(mix(mix(d, 1, 1), "table"), "");
    d = mix(mix(mix(d, 1, 1), "half"), "03");
    d = mix(mix(mix(d, 2, 2), "(table|half)"), "03");
    return mix(d, 1);
  }

  public static void main(String[] args) {
    test("Promise 1", PromisesTest::promise1);
    test("Promise 2", PromisesTest::promise2);
    test("Promise 3", PromisesTest::promise3);
    test("Promise 4", PromisesTest::promise4);
    test("Promise 5", PromisesTest::promise5);
    test("Promise 6", PromisesTest::promises6And7);
    test("Promise 8", PromisesTest::promise8);
    test("Promise 9", PromisesTest::promise9);
    test("Promise 10", PromisesTest::promise10);
    test("Promise 11", PromisesTest::promise11);
    test("Promise 12", PromisesTest::promise12);
    test("Promise 13", PromisesTest::promise13);
    test("Promise 14", PromisesTest::promise14);
    test("Promise 15", PromisesTest::promise15);
    test("Promise 16", PromisesTest::promise16);
    test("Promise 17", PromisesTest::promise17);
    test("Promise 18", PromisesTest::promise18);
    test("Promise 19", PromisesTest::promise19);
    test("Promise 20", PromisesTest::promise20);
    test("Promise 21", PromisesTest::promise21);
    test("Promise 22", PromisesTest::promise22);
    test("Promise 23", PromisesTest::promise23);
    test("Promise 24", PromisesTest::promise24);
    test("Promise 25", PromisesTest::promise25);
    test("Promise 26", PromisesTest::promises26And27);
    test("Promise 28", PromisesTest::promise28);
    test("Promise 29", PromisesTest::promise29);
    test("Promise 30", PromisesTest::promises30And31);
    test("Promise 32", PromisesTest::promises32To34);
    test("Promise 35", PromisesTest::promise35);
    test("Promise 36", PromisesTest::promise36);
    test("Promise 36", PromisesTest::promise36OneMarkMore);
    test("Promise 37", PromisesTest::promises37And38);
    test("Promise 39", PromisesTest::promise39);
    test("Promise 40", PromisesTest::promise40);
    test("Promise 41", PromisesTest::promise41);
    test("Promise 42", PromisesTest::promise42);
    test("Promise 43", PromisesTest::promise43);
    end();
  }
}
