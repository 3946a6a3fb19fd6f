/**
 * The sentences on what throws: each argument one below the first that is let, one above the last,
 * and at both ends of all numbers, with the other arguments at their first and at their last.
 */
public final class ThrowsTest extends Check {
  // Of an argument that may be any number: a low one, and a high one.
  private static final int LOW = MIN;
  private static final int HIGH = MAX;

  private static int[] firstOnes(String sorts) {
    int[] arguments = new int[sorts.length()];
    for (int i = 0; i < arguments.length; i++) {
      arguments[i] = sorts.charAt(i) == 'n' ? LOW : 0;
    }
    return arguments;
  }

  private static int[] lastOnes(String sorts) {
    int[] arguments = new int[sorts.length()];
    for (int i = 0; i < arguments.length; i++) {
      int many = Face.many(sorts.charAt(i));
      arguments[i] = many > 0 ? many - 1 : HIGH;
    }
    return arguments;
  }

  private static String told(Face.Row row, int[] arguments) {
    StringBuilder out = new StringBuilder(row.name).append('(');
    for (int i = 0; i < arguments.length; i++) {
      out.append(i == 0 ? "" : ", ").append(arguments[i]);
    }
    return out.append(')').toString();
  }

  private static int[] with(int[] arguments, int place, int value) {
    int[] changed = arguments.clone();
    changed[place] = value;
    return changed;
  }

  private static void dueThrows(Face.Row row, int[] arguments, String want) {
    String what = told(row, arguments);
    dueStill(what, used(), want, x -> Face.call(x, row, arguments));
    dueStill(what + " at the limits", atTheLimits(), want, x -> Face.call(x, row, arguments));
  }

  /** Each wrong value of one argument, where all the others are let. */
  private static void throwsAlone(Face.Row row, int place) {
    char sort = row.sorts.charAt(place);
    for (int value : wrongPlaces(Face.many(sort))) {
      dueThrows(row, with(firstOnes(row.sorts), place, value), Face.exception(sort));
      dueThrows(row, with(lastOnes(row.sorts), place, value), Face.exception(sort));
    }
  }

  /** Each wrong value of a place, where a kind or a count is wrong too. */
  private static void throwsFirst(Face.Row row, int place, int other) {
    String want = Face.exception('B');
    int[] seconds = wrongPlaces(Face.many(row.sorts.charAt(other)));
    for (int value : wrongPlaces(Face.many(row.sorts.charAt(place)))) {
      for (int second : seconds) {
        dueThrows(row, with(with(firstOnes(row.sorts), place, value), other, second), want);
      }
      dueThrows(row, with(with(lastOnes(row.sorts), place, value), other, seconds[1]), want);
    }
  }

  /** The first and the last that are let throw nothing, with any numbers. */
  private static void isLet(Face.Row row, Partarrows x, int[] arguments) {
    String answer = Face.call(x, row, arguments).toString();
    due(told(row, arguments) + " throws", answer.startsWith("throws."), false);
  }

  private static String name(char sort) {
    switch (sort) {
      case 'B': return "a BOX";
      case 'A': return "an ARROW";
      case 'K': return "a KEY";
      case 'M': return "a MAP";
      case 'T': return "a TEST";
      case 'P': return "a KIND";
      case 'W': return "many";
      case 'L': return "many";
      default: return "what";
    }
  }

  private static void testRow(Face.Row row) {
    String head = "Promise " + row.promise + ": " + row.name + "()";
    for (int i = 0; i < row.sorts.length(); i++) {
      int place = i;
      char sort = row.sorts.charAt(i);
      if (Face.many(sort) < 0) continue;
      test(head + " throws if its " + (i + 1) + ". argument is not " + name(sort) + ", and changes nothing",
          () -> throwsAlone(row, place));
      for (int j = 0; j < row.sorts.length(); j++) {
        int other = j;
        char second = row.sorts.charAt(j);
        if (!Face.isPlace(sort) || Face.isPlace(second) || Face.many(second) < 0) continue;
        test(head + " throws what is named first, if the " + (i + 1) + ". and the " + (j + 1) + ". are wrong",
            () -> throwsFirst(row, place, other));
      }
    }
    test(head + " throws nothing with the first and the last that are let", () -> {
      isLet(row, used(), firstOnes(row.sorts));
      isLet(row, used(), lastOnes(row.sorts));
      isLet(row, atTheLimits(), firstOnes(row.sorts));
      isLet(row, atTheLimits(), lastOnes(row.sorts));
      isLet(row, new Partarrows(), firstOnes(row.sorts));
      isLet(row, new Partarrows(), lastOnes(row.sorts));
    });
  }

  private static void dueAhead(String what, Call refused, Call throwing, String want) {
    due(what + " that is let", answer(atTheLimits(), refused), "-9");
    dueStill(what + " that throws", atTheLimits(), want, throwing);
  }

  private static void aheadOfRefused() {
    String index = Face.exception('A');
    String argument = Face.exception('M');
    dueAhead("then()", x -> x.then(3, 0, 0), x -> x.then(4, 0, 0), index);
    dueAhead("otherwise()", x -> x.otherwise(3, 0, 0), x -> x.otherwise(-1, 0, 0), index);
    dueAhead("when()", x -> x.when(1, EVEN, 0, 1), x -> x.when(1, 3, 0, 1), argument);
    dueAhead("when()", x -> x.when(1, EVEN, 0, 1), x -> x.when(-1, EVEN, 0, 1), index);
    dueAhead("mapped()", x -> x.mapped(1, 1, PLUS, 0), x -> x.mapped(1, 1, -1, 0), argument);
    dueAhead("mapped()", x -> x.mapped(1, 1, PLUS, 0), x -> x.mapped(4, 1, PLUS, 0), index);
    dueAhead("power()", x -> x.power(1, 1, 12), x -> x.power(1, 1, 13), argument);
    dueAhead("power()", x -> x.power(1, 1, 12), x -> x.power(4, 1, 12), index);
  }

  private static void keepsTrace() {
    String[] wrong = {"map", "filter", "bind", "orBox", "orArrow", "orAsk", "ask", "askInto"};
    for (String name : wrong) {
      Face.Row row = Face.row(name);
      Partarrows x = used();
      int[] arguments = with(firstOnes(row.sorts), 0, 4);
      due(told(row, arguments), Face.call(x, row, arguments), Face.exception('B'));
      due("trace() behind " + name, x.trace(), "a6:6 a3:6");
      due("traced() behind " + name, x.traced(), 2);
    }
  }

  public static void main(String[] args) {
    for (Face.Row row : Face.ROWS) {
      testRow(row);
    }
    test("exceptions go ahead of -9", ThrowsTest::aheadOfRefused);
    test("each of these that throws nothing begins it anew", ThrowsTest::keepsTrace);
    end();
  }
}
