import java.lang.reflect.InvocationTargetException;
import java.lang.reflect.Method;
import java.util.HashMap;
import java.util.Map;

/** The face of the class as the document lists it, and a call by a method's name. */
final class Face {
  /** A method: its promise, and for each of its arguments a sign that says what it stands for. */
  static final class Row {
    final int promise;
    final String name;
    final String sorts;

    Row(int promise, String name, String sorts) {
      this.promise = promise;
      this.name = name;
      this.sorts = sorts;
    }
  }

  // B a box, A an arrow, K a key, M a map, T a test, P a kind of arrow, W how many times,
  // L how many numbers, H what is asked of the house, n any number, b whether.
  private static final String[] METHODS = {
    "box Bn", "maybe Bnb", "none B", "copy BB", "isThere B", "isEmpty B", "number B", "orElse Bn",
    "areAlike BB", "visit B", "visitElse B", "map BMn", "filter BTn", "bind BA", "orBox BB",
    "orArrow BAn", "orAsk BAn", "plain APn", "copyArrow AA", "then AAA", "otherwise AAA",
    "when ATnA", "mapped AAMn", "power AAW", "lay Kn", "lift K", "ask An", "askInto BAn", "trace ",
    "traced ", "parts A", "deep A", "text A", "domain AnL", "areSame AAnLb", "isUnit An",
    "isJoined AAAn", "isMapped BMnMn", "house H", "knock ", "isSound ", "digest ",
  };

  static final Row[] ROWS = rows();

  private static final Map<String, Method> BY_NAME = byName();

  private Face() {}

  private static Row[] rows() {
    Row[] rows = new Row[METHODS.length];
    for (int i = 0; i < METHODS.length; i++) {
      String[] halves = METHODS[i].split(" ", -1);
      // Promise 1 is the constructor's.
      rows[i] = new Row(i + 2, halves[0], halves[1]);
    }
    return rows;
  }

  private static Map<String, Method> byName() {
    Map<String, Method> methods = new HashMap<>();
    for (Method method : Partarrows.class.getMethods()) {
      methods.put(method.getName(), method);
    }
    return methods;
  }

  static Row row(String name) {
    for (Row row : ROWS) {
      if (row.name.equals(name)) return row;
    }
    throw new IllegalStateException(name);
  }

  /** How many values an argument of this sort may have, from 0 on; -1 if it may have any. */
  static int many(char sort) {
    switch (sort) {
      case 'B':
      case 'A':
      case 'M': return 4;
      case 'K': return 10;
      case 'T': return 3;
      case 'P': return 8;
      case 'W': return 13;
      case 'L': return 21;
      case 'H': return 6;
      default: return -1;
    }
  }

  static boolean isPlace(char sort) {
    return sort == 'B' || sort == 'A' || sort == 'K';
  }

  /** What a wrong argument of this sort throws. */
  static String exception(char sort) {
    return isPlace(sort) ? "throws.IndexOutOfBoundsException" : "throws.IllegalArgumentException";
  }

  /** What the call answers, or what it throws. Of what stands for whether, 0 is no. */
  static Object call(Partarrows x, Row row, int[] arguments) {
    Object[] given = new Object[row.sorts.length()];
    for (int i = 0; i < given.length; i++) {
      given[i] = row.sorts.charAt(i) == 'b' ? (Object) (arguments[i] != 0) : (Object) arguments[i];
    }
    try {
      return BY_NAME.get(row.name).invoke(x, given);
    } catch (InvocationTargetException thrown) {
      return "throws." + thrown.getCause().getClass().getSimpleName();
    } catch (IllegalAccessException thrown) {
      throw new IllegalStateException(thrown);
    }
  }
}
