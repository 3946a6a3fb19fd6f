/** The example in README.md answers as its rows say. */
public final class ReadmeTest extends Check {
  private static void dueCall(Partarrows x, String row, String want, Call call) {
    due(row, answer(x, call), want);
  }

  private static void example() {
    Partarrows x = new Partarrows();
    dueCall(x, "plain(0, 2, 3)", "1", y -> y.plain(0, 2, 3));
    dueCall(x, "plain(1, 3, 0)", "1", y -> y.plain(1, 3, 0));
    dueCall(x, "then(2, 0, 1)", "2", y -> y.then(2, 0, 1));
    dueCall(x, "text(2)", "(add3;half)", y -> y.text(2));
    dueCall(x, "ask(2, 5)", "4", y -> y.ask(2, 5));
    dueCall(x, "trace()", "a2:5 a3:8", y -> y.trace());
    dueCall(x, "askInto(0, 2, 6)", "0", y -> y.askInto(0, 2, 6));
    dueCall(x, "orElse(0, 7)", "7", y -> y.orElse(0, 7));
    dueCall(x, "box(0, 20)", "1", y -> y.box(0, 20));
    dueCall(x, "filter(0, 1, 21)", "1", y -> y.filter(0, 1, 21));
    dueCall(x, "map(0, 3, 0)", "1", y -> y.map(0, 3, 0));
    dueCall(x, "number(0)", "10", y -> y.number(0));
    dueCall(x, "power(2, 2, 6)", "-9", y -> y.power(2, 2, 6));
    dueCall(x, "house(4)", "1", y -> y.house(4));
    dueCall(x, "box(4, 1)", "throws.IndexOutOfBoundsException", y -> y.box(4, 1));
    dueCall(x, "map(0, 4, 1)", "throws.IllegalArgumentException", y -> y.map(0, 4, 1));
  }

  public static void main(String[] args) {
    test("README.md: the example", ReadmeTest::example);
    end();
  }
}
