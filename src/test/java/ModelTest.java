import java.util.ArrayList;
import java.util.List;

/**
 * Long runs of calls, each answer held against a second, plain reading of the document: Model.
 * The runs are drawn by a fixed rule, so that they are the same every time.
 */
public final class ModelTest {
  private static final int RUNS = 400;
  // All that an object may be used for; the last one is digest().
  private static final int CALLS = 512;
  private static final int MOST_WRONG_SHOWN = 20;

  private static final String NO_INDEX = "throws.IndexOutOfBoundsException";
  private static final String NO_ARGUMENT = "throws.IllegalArgumentException";

  private static int wrong = 0;

  // ---- the second reading

  /** A made or plain arrow, as what is written of it. */
  private static final class Tree {
    final String type;
    final int kind;
    final int n;
    final Tree a;
    final Tree b;

    Tree(String type, int kind, int n, Tree a, Tree b) {
      this.type = type;
      this.kind = kind;
      this.n = n;
      this.a = a;
      this.b = b;
    }

    int parts() {
      return type.equals("plain") ? 1 : a.parts() + (b == null ? 0 : b.parts());
    }

    int deep() {
      return type.equals("plain") ? 1 : 1 + Math.max(a.deep(), b == null ? 0 : b.deep());
    }

    String text() {
      switch (type) {
        case "then":
          return "(" + a.text() + ";" + b.text() + ")";
        case "otherwise":
          return "(" + a.text() + "|" + b.text() + ")";
        case "when":
          return "[" + kind + "," + n + "]" + a.text();
        case "mapped":
          return a.text() + "{" + kind + "," + n + "}";
        default:
          String[] words = {"unit", "void", "add", "half", "over", "below", "table", "just"};
          boolean hasN = kind == 2 || kind == 4 || kind == 5 || kind == 7;
          return words[kind] + (hasN ? "" + n : "");
      }
    }
  }

  private static final class Model {
    final Integer[] box = new Integer[4];
    final Integer[] table = new Integer[10];
    final Tree[] arrow = new Tree[4];
    List<String> trace = new ArrayList<>();
    int visited = 0;
    int told = 0;
    int knocks = 0;

    Model() {
      for (int i = 0; i < 4; i++) arrow[i] = new Tree("plain", 0, 0, null, null);
    }

    static Integer tell(long v) {
      return v < -2147483648L || v > 2147483647L ? null : (Integer) (int) v;
    }

    static Integer through(int map, int n, Integer x, List<String> marks) {
      if (x == null) return null;
      marks.add("m" + map + ":" + x);
      if (map == 0) return (int) ((long) x + n);
      if (map == 1) return (int) ((long) x * n);
      if (map == 2) return (int) ((long) n - x);
      return (x & 1) == 0 ? (Integer) (x >> 1) : null;
    }

    static boolean isSo(int test, int n, int x, List<String> marks) {
      marks.add("t" + test + ":" + x);
      return test == 0 ? (x & 1) == 0 : test == 1 ? x < n : x != n;
    }

    Integer ask(Tree tree, Integer x, List<String> marks) {
      if (x == null) return null;
      switch (tree.type) {
        case "then":
          return ask(tree.b, ask(tree.a, x, marks), marks);
        case "otherwise":
          Integer answer = ask(tree.a, x, marks);
          return answer != null ? answer : ask(tree.b, x, marks);
        case "when":
          return isSo(tree.kind, tree.n, x, marks) ? ask(tree.a, x, marks) : null;
        case "mapped":
          return through(tree.kind, tree.n, ask(tree.a, x, marks), marks);
        default:
          return askPlain(tree.kind, tree.n, x, marks);
      }
    }

    Integer askPlain(int kind, int n, int x, List<String> marks) {
      if (kind != 0) marks.add("a" + kind + ":" + x);
      switch (kind) {
        case 0:
          return x;
        case 1:
          return null;
        case 2:
          return tell((long) x + n);
        case 3:
          return (x & 1) == 0 ? (Integer) (x >> 1) : null;
        case 4:
          return x == 0 ? null : tell((long) n / (long) x);
        case 5:
          return x < n ? (Integer) x : null;
        case 6:
          return x >= 0 && x <= 9 ? table[x] : null;
        default:
          return n;
      }
    }

    int become(int b, Integer v) {
      box[b] = v;
      return v == null ? 0 : 1;
    }

    int put(int k, Tree made) {
      if (made.parts() > 12 || made.deep() > 6) {
        told++;
        return -9;
      }
      arrow[k] = made;
      return made.parts();
    }

    boolean agree(Tree one, Tree other, int x, boolean isTraced) {
      List<String> m = new ArrayList<>();
      List<String> k = new ArrayList<>();
      Integer a = ask(one, x, m);
      Integer b = ask(other, x, k);
      return (a == null ? b == null : a.equals(b)) && (!isTraced || m.equals(k));
    }

    static int there(Integer[] row) {
      int sum = 0;
      for (Integer v : row) sum += v == null ? 0 : 1;
      return sum;
    }

    int house(int what) {
      switch (what) {
        case 0:
          return there(box);
        case 1:
          return there(table);
        case 2:
          return arrow[0].parts() + arrow[1].parts() + arrow[2].parts() + arrow[3].parts();
        case 3:
          return visited;
        case 4:
          return told;
        default:
          return knocks;
      }
    }

    String shown() {
      return String.join(" ", trace.subList(0, Math.min(30, trace.size())));
    }

    long digest() {
      List<Object> all = new ArrayList<>();
      for (int i = 0; i < 6; i++) all.add(house(i));
      for (Integer[] row : new Integer[][] {box, table}) {
        for (Integer v : row) {
          all.add(v == null ? 0 : 1);
          all.add(v == null ? 0 : v);
        }
      }
      all.add(trace.size());
      all.add(shown());
      for (Tree tree : arrow) {
        all.add(tree.parts());
        all.add(tree.deep());
        all.add(tree.text());
        for (int x : new int[] {-1, 0, 6}) {
          Integer answer = ask(tree, x, new ArrayList<>());
          all.add(answer == null ? "" : "" + answer);
        }
      }
      all.add(1);
      long d = 7841;
      for (Object one : all) {
        if (one instanceof Integer) {
          d = d * 31 + (Integer) one;
        } else {
          for (char sign : ((String) one).toCharArray()) d = d * 31 + sign;
        }
      }
      return d;
    }

    // ---- a call, by its name

    static boolean out(int top, int... places) {
      for (int place : places) if (place < 0 || place > top) return true;
      return false;
    }

    Object call(String name, int[] v, boolean is) {
      int a = v[0];
      int b = v[1];
      int c = v[2];
      int d = v[3];
      int e = v[4];
      switch (name) {
        case "box":
        case "maybe":
        case "none": {
          if (out(3, a)) return NO_INDEX;
          boolean gets = name.equals("box") || name.equals("maybe") && is;
          int was = box[a] == null ? 1 : 0;
          box[a] = gets ? (Integer) b : null;
          return was;
        }
        case "copy": {
          if (out(3, a, b)) return NO_INDEX;
          int were = alike(a, b) ? 1 : 0;
          box[a] = box[b];
          return were;
        }
        case "isThere":
          return out(3, a) ? NO_INDEX : (Object) (box[a] != null);
        case "isEmpty":
          return out(3, a) ? NO_INDEX : (Object) (box[a] == null);
        case "number":
          if (out(3, a)) return NO_INDEX;
          if (box[a] == null) told++;
          return box[a] == null ? "!" : "" + box[a];
        case "orElse":
          return out(3, a) ? NO_INDEX : (Object) (box[a] == null ? b : box[a]);
        case "areAlike":
          return out(3, a, b) ? NO_INDEX : (Object) alike(a, b);
        case "visit":
        case "visitElse":
          if (out(3, a)) return NO_INDEX;
          if (box[a] != null) visited = box[a];
          else if (name.equals("visitElse")) visited--;
          return box[a] == null ? 0 : 1;
        case "map":
          if (out(3, a)) return NO_INDEX;
          if (out(3, b)) return NO_ARGUMENT;
          trace = new ArrayList<>();
          return become(a, through(b, c, box[a], trace));
        case "filter":
          if (out(3, a)) return NO_INDEX;
          if (out(2, b)) return NO_ARGUMENT;
          trace = new ArrayList<>();
          if (box[a] == null) return 0;
          return become(a, isSo(b, c, box[a], trace) ? box[a] : null);
        case "bind":
          if (out(3, a, b)) return NO_INDEX;
          trace = new ArrayList<>();
          return become(a, ask(arrow[b], box[a], trace));
        case "orBox":
          if (out(3, a, b)) return NO_INDEX;
          trace = new ArrayList<>();
          return become(a, box[a] == null ? box[b] : box[a]);
        case "orArrow":
          if (out(3, a, b)) return NO_INDEX;
          trace = new ArrayList<>();
          return become(a, box[a] == null ? ask(arrow[b], c, trace) : box[a]);
        case "orAsk": {
          if (out(3, a, b)) return NO_INDEX;
          trace = new ArrayList<>();
          Integer answer = box[a] == null ? ask(arrow[b], c, trace) : box[a];
          return answer == null ? -1 : answer;
        }
        case "plain":
          if (out(3, a)) return NO_INDEX;
          return out(7, b) ? NO_ARGUMENT : (Object) put(a, new Tree("plain", b, c, null, null));
        case "copyArrow":
          return out(3, a, b) ? NO_INDEX : (Object) put(a, arrow[b]);
        case "then":
        case "otherwise":
          if (out(3, a, b, c)) return NO_INDEX;
          return put(a, new Tree(name, 0, 0, arrow[b], arrow[c]));
        case "when":
          if (out(3, a, d)) return NO_INDEX;
          return out(2, b) ? NO_ARGUMENT : (Object) put(a, new Tree("when", b, c, arrow[d], null));
        case "mapped":
          if (out(3, a, b)) return NO_INDEX;
          return out(3, c) ? NO_ARGUMENT : (Object) put(a, new Tree("mapped", c, d, arrow[b], null));
        case "power": {
          if (out(3, a, b)) return NO_INDEX;
          if (out(12, c)) return NO_ARGUMENT;
          Tree made = new Tree("plain", 0, 0, null, null);
          for (int i = 1; i <= c; i++) made = i == 1 ? arrow[b] : new Tree("then", 0, 0, made, arrow[b]);
          return put(a, made);
        }
        case "lay":
        case "lift": {
          if (out(9, a)) return NO_INDEX;
          int had = table[a] == null ? 0 : 1;
          table[a] = name.equals("lay") ? (Integer) b : null;
          return had;
        }
        default:
          return callMore(name, v, is);
      }
    }

    boolean alike(int a, int b) {
      return box[a] == null ? box[b] == null : box[a].equals(box[b]);
    }

    Object callMore(String name, int[] v, boolean is) {
      int a = v[0];
      int b = v[1];
      int c = v[2];
      int d = v[3];
      int e = v[4];
      switch (name) {
        case "ask": {
          if (out(3, a)) return NO_INDEX;
          trace = new ArrayList<>();
          Integer answer = ask(arrow[a], b, trace);
          return answer == null ? "" : "" + answer;
        }
        case "askInto":
          if (out(3, a, b)) return NO_INDEX;
          trace = new ArrayList<>();
          return become(a, ask(arrow[b], c, trace));
        case "trace":
          return shown();
        case "traced":
          return trace.size();
        case "parts":
          return out(3, a) ? NO_INDEX : (Object) arrow[a].parts();
        case "deep":
          return out(3, a) ? NO_INDEX : (Object) arrow[a].deep();
        case "text":
          return out(3, a) ? NO_INDEX : (Object) arrow[a].text();
        case "domain": {
          if (out(3, a)) return NO_INDEX;
          if (out(20, c)) return NO_ARGUMENT;
          int sum = 0;
          for (long x = b; x < (long) b + c; x++) {
            if (tell(x) != null && ask(arrow[a], tell(x), new ArrayList<>()) != null) sum++;
          }
          return sum;
        }
        case "areSame": {
          if (out(3, a, b)) return NO_INDEX;
          if (out(20, d)) return NO_ARGUMENT;
          boolean same = true;
          for (long x = c; x < (long) c + d; x++) {
            if (tell(x) != null) same &= agree(arrow[a], arrow[b], tell(x), is);
          }
          return same;
        }
        case "isUnit":
          return out(3, a) ? NO_INDEX : (Object) true;
        case "isJoined":
          return out(3, a, b, c) ? NO_INDEX : (Object) true;
        case "isMapped":
          return out(3, a) ? NO_INDEX : out(3, b, d) ? NO_ARGUMENT : (Object) true;
        case "house":
          return out(5, a) ? NO_ARGUMENT : (Object) house(a);
        case "knock":
          return ++knocks;
        case "isSound":
          return true;
        default:
          return digest();
      }
    }
  }

  // ---- the runs

  // The methods that are drawn more often than the others.
  private static final String[] OFTEN = {
    "plain", "plain", "then", "otherwise", "when", "mapped", "lay", "box", "ask", "askInto", "areSame",
    "digest",
  };

  private static final int[] EDGES = {
    -2147483648, -2147483647, 2147483647, 2147483646, -1, 0, 1, -9, 1073741824, -1073741824, 65536,
  };

  private static long seed = 20261119L;

  private static int draw(int many) {
    seed = seed * 6364136223846793005L + 1442695040888963407L;
    return (int) ((seed >>> 33) % many);
  }

  private static int drawPlace(int many) {
    int sort = draw(60);
    return sort == 0 ? -1 : sort == 1 ? many : sort == 2 ? EDGES[draw(EDGES.length)] : draw(many);
  }

  private static int drawNumber() {
    int sort = draw(10);
    return sort == 0 ? draw(2147483647) * 2 : sort < 3 ? EDGES[draw(EDGES.length)] : draw(22) - 8;
  }

  private static Face.Row drawRow() {
    int drawn = draw(Face.ROWS.length + OFTEN.length);
    return drawn < Face.ROWS.length ? Face.ROWS[drawn] : Face.row(OFTEN[drawn - Face.ROWS.length]);
  }

  private static int drawOf(char sort) {
    if (sort == 'b') return draw(2);
    int many = Face.many(sort);
    if (many < 0) return drawNumber();
    // A power of many is refused mostly, so that few are drawn more often.
    return sort == 'W' && draw(3) > 0 ? draw(4) : drawPlace(many);
  }

  private static void show(int run, List<String> calls, Object got, Object want) {
    wrong++;
    if (wrong > MOST_WRONG_SHOWN) return;
    System.out.println("run " + run + ", call " + calls.size() + ": " + calls.get(calls.size() - 1)
        + " answered " + got + ", due is " + want);
  }

  private static void run(int run) {
    Partarrows x = new Partarrows();
    Model model = new Model();
    List<String> calls = new ArrayList<>();
    int wrongBefore = wrong;
    for (int i = 1; i < CALLS && wrong == wrongBefore; i++) {
      Face.Row row = drawRow();
      int[] v = new int[5];
      StringBuilder told = new StringBuilder(row.name).append('(');
      for (int k = 0; k < row.sorts.length(); k++) {
        v[k] = drawOf(row.sorts.charAt(k));
        told.append(k == 0 ? "" : ", ").append(v[k]);
      }
      calls.add(told.append(')').toString());
      int whether = row.sorts.indexOf('b');
      Object want = model.call(row.name, v, whether >= 0 && v[whether] != 0);
      Object got = Face.call(x, row, v);
      if (!want.equals(got)) show(run, calls, got, want);
    }
    if (wrong == wrongBefore && x.digest() != model.digest()) {
      calls.add("digest()");
      show(run, calls, x.digest(), model.digest());
    }
  }

  public static void main(String[] args) {
    for (int run = 1; run <= RUNS; run++) {
      run(run);
    }
    System.out.println(wrong == 0 ? RUNS + " runs are as the model's" : wrong + " runs are not as due");
    if (wrong != 0) System.exit(1);
  }
}
