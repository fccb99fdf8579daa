import java.util.ArrayList;
import java.util.List;
import java.util.Random;

/** Makes texts by chance, from a seed, that are mostly without a fault and do a good deal. */
final class Programs {
  private static final String[] NAMES = {"a", "b", "c", "d", "e", "l", "m", "x", "y"};
  private static final String[] FUNCTIONS = {"f", "g", "h", "mk"};
  private static final String[] CLASSES = {"A", "B", "C"};
  private static final String[] ATTRIBUTES = {"n", "v", "me", "get", "init", "next"};
  private final Random random;
  private StringBuilder text;
  private int left;
  private boolean inFunction;
  private int loops;
  private List<String> parameters = new ArrayList<>();

  Programs(long seed) {
    random = new Random(seed);
  }

  int below(int n) {
    return random.nextInt(n);
  }

  private String one(String... of) {
    return of[below(of.length)];
  }

  String make() {
    text = new StringBuilder();
    left = 5 + below(40);
    inFunction = false;
    loops = 0;
    parameters = new ArrayList<>();
    if (below(4) > 0) prelude();
    while (left > 0 && text.length() < 2600) {
      if (below(60) == 0) heavy();
      else if (below(3) == 0) attempt(0, 0);
      else statement(0, 0);
    }
    if (text.length() > 3000) text.setLength(3000);
    return text.toString();
  }

  private void prelude() {
    line(0, "a = " + below(5));
    line(0, "b = c = ".substring(0, 4) + below(9));
    line(0, "c = -3");
    line(0, "e = None");
    line(0, "l = [1, 'a', None]");
    line(0, "m = [l, l]");
    line(0, "d = {1: 2, 'a': l}");
    line(0, "class A:");
    line(1, "n = 1");
    line(1, "v = l");
    line(1, "def get(x):");
    line(2, "return x.n");
    line(0, "class B(A):");
    line(1, "def init(x, y):");
    line(2, "x.v = y");
    if (below(2) == 0) line(2, "x.me = x");
    line(0, "C = B");
    line(0, "x = A()");
    line(0, "y = B(l)");
    line(0, "def f(a):");
    line(1, "def g():");
    line(2, "return a");
    line(1, "return g");
    line(0, "g = f(5)");
    line(0, "h = mk = f".substring(0, 4) + "f");
    line(0, "mk = g");
    left = 5 + below(40);
  }

  /** The same with a few bytes changed, so that it may have a fault. */
  String makeBroken() {
    StringBuilder s = new StringBuilder(make());
    int changes = 1 + below(3);
    String bytes = "  \n\n()[]{},:.+-*/%=!<>#'_a19\tz\u00e9 if el";
    String[] words = {" not ", "if ", "else:\n", "elif 1:\n", "except:\n", "break\n", "continue\n", "return 1\n",
        "global a\n", "del ", "((((((((((((", "- - - - - - -", "not not not not ", " = ", " += ", "\n ", "\n  ",
        "\n   ", "pass", "def f(a, b):\n", "class A:\n", "try:\n", "in", " is ", "None", "True = 1\n",
        "abcdefghijklm", "9223372036854775808", "'aaaaaaaaaaaaaaaa'", "'aaaaaaaaaaaaaaa'", "raise", "#", "[[[[[[[[[["};
    for (int i = 0; i < changes && s.length() > 0; i++) {
      int at = below(s.length());
      switch (below(4)) {
        case 0: s.deleteCharAt(at); break;
        case 1: s.insert(at, bytes.charAt(below(bytes.length()))); break;
        case 2: s.insert(at, words[below(words.length)]); break;
        default: s.setCharAt(at, bytes.charAt(below(bytes.length())));
      }
    }
    if (below(20) == 0) s.setLength(below(s.length() + 1));
    if (s.length() > 3000) s.setLength(3000);
    return s.toString();
  }

  private void line(int indent, String s) {
    for (int i = 0; i < indent; i++) text.append(' ');
    text.append(s);
    if (below(15) == 0) text.append(one(" ", " # x", "#'"));
    text.append('\n');
    if (below(30) == 0) text.append(one("\n", "   \n", "# c\n", "  # ' c\n"));
    left--;
  }

  private void block(int indent, int depth) {
    int n = 1 + below(3);
    int deeper = indent + 1 + below(2);
    for (int i = 0; i < n; i++) statement(deeper, depth + 1);
  }

  /** Statements that come to a limit, mostly. */
  private void heavy() {
    line(0, "try:");
    switch (below(9)) {
      case 0: line(1, "for b in range(300):"); line(2, "push(l, [" + one("l", "[]", "{}", "[l]", "range(b)", "0") + "])"); break;
      case 1: line(1, "while 1:"); line(2, one("l = [l]", "l = [l, l]", "d = {1: d}", "x = B(x)", "push(l, A())", "l = l + l")); break;
      case 2: line(1, "def f(a):"); line(2, one("return f([a])", "return [f(a + 1)]", "print(alive())", "l = a"));
        line(2, one("return f(a)", "f({1: a})", "return g(f(a), 1)")); line(1, "f(" + one("1", "[]", "l") + ")"); break;
      case 3: line(1, "for a in range(300):"); line(2, one("d[a] = a", "d[text(a)] = [a]", "d[-a] = d", "del d[a]")); break;
      case 4: line(1, "for a in range(300):"); line(2, "print(" + one("'abcdefghijklmno'", "l", "d", "range(a)", "x, y") + ")"); break;
      case 5: line(1, "class B:"); line(2, "def init(x, y):"); line(3, "if y:"); line(4, "x.me = B(y - 1)"); line(3, "x.v = [x]");
        line(1, "x = B(" + one("5", "29", "30", "31") + ")"); break;
      case 6: line(1, "while 1:"); line(2, one("b += b", "b *= b", "b -= 9223372036854775807", "e += 'a'", "e = '-' + 'b'")); break;
      case 7: line(1, "e = ''"); line(1, "while 1:"); line(2, "e += 'a'"); line(2, one("l += [e]", "d[e] = l", "print(e)", "m = e[-1]", "pass")); break;
      default: line(1, "while 1:"); line(2, "def f(a):"); line(3, "return f"); line(2, one("push(l, f)", "f(f)", "f = [f]", "push(l, f)"));
        line(2, "x.get = f"); line(2, one("y = x.get", "push(m, x.get)", "pass"));
    }
    line(0, one("except:", "except e:"));
    line(1, one("pass", "print(alive())", "collect()", "print(a, b)"));
    if (below(2) == 0) line(0, one("l = None", "l = []", "d = {}", "m = []", "x = A()"));
    if (below(2) == 0) line(0, "print(alive(), collect())");
    left = 5 + below(20);
  }

  private void statement(int indent, int depth) {
    int kind = below(depth < 5 && left > 0 && text.length() < 2000 ? 34 : 20);
    switch (kind) {
      case 0: case 1: case 2: case 3: line(indent, assignment()); break;
      case 4: line(indent, intName() + one(" += ", " -= ", " *= ") + int_(1)); break;
      case 5: line(indent, one(post(), listName(), dictName()) + "[" + key(1) + "] = " + any(1)); break;
      case 6: line(indent, one(post(), instanceName()) + "." + one(ATTRIBUTES) + " = " + any(1)); break;
      case 7: line(indent, one(post(), listName(), dictName()) + "[" + key(1) + "] += " + int_(1)); break;
      case 8: line(indent, one(post(), instanceName()) + "." + one(ATTRIBUTES) + " += " + int_(1)); break;
      case 9: case 10: case 11: line(indent, "print(" + arguments(3) + ")"); break;
      case 12: line(indent, "print(alive(), refs(" + name() + "))"); break;
      case 13: line(indent, one("collect()", "print(collect())", "print(alive())", "push(" + post() + ", " + any(1) + ")")); break;
      case 14: line(indent, one("pass", "del " + name(), "del " + post() + "[" + key(1) + "]", "del " + name() + "." + one(ATTRIBUTES))); break;
      case 15: line(indent, inFunction ? one("return", "return " + any(2)) : any(2)); break;
      case 16: line(indent, loops > 0 ? one("break", "continue") : "raise " + one("10", "99", "42", "9", "100", "None", int_(1))); break;
      case 17: line(indent, inFunction && below(3) == 0 ? "global " + freeName() : any(2)); break;
      case 18: case 19: line(indent, any(2)); break;
      case 20: case 21: branch(indent, depth); break;
      case 22: loop(indent, depth); break;
      case 23: case 24: forLoop(indent, depth); break;
      case 25: case 26: case 27: def(indent, depth, one(FUNCTIONS)); break;
      case 28: case 29: classOf(indent, depth); break;
      default: attempt(indent, depth);
    }
  }

  private String freeName() {
    String name = one(NAMES);
    return parameters.contains(name) ? "zz" : name;
  }

  private void branch(int indent, int depth) {
    line(indent, "if " + any(2) + ":");
    block(indent, depth);
    while (below(3) == 0) {
      line(indent, "elif " + any(1) + ":");
      block(indent, depth);
    }
    if (below(3) == 0) {
      line(indent, "else:");
      block(indent, depth);
    }
  }

  private void loop(int indent, int depth) {
    line(indent, "while " + any(2) + ":");
    loops++;
    block(indent, depth);
    loops--;
  }

  private void forLoop(int indent, int depth) {
    line(indent, "for " + name() + " in " + list(2) + ":");
    loops++;
    block(indent, depth);
    loops--;
  }

  private void def(int indent, int depth, String name) {
    List<String> outer = parameters;
    boolean outerIn = inFunction;
    int outerLoops = loops;
    parameters = new ArrayList<>();
    int n = below(3);
    for (int i = 0; i < n; i++) {
      String parameter = one(NAMES);
      if (!parameters.contains(parameter)) parameters.add(parameter);
    }
    line(indent, "def " + name + "(" + String.join(", ", parameters) + "):");
    inFunction = true;
    loops = 0;
    block(indent, depth);
    if (below(2) == 0) {
      line(text.charAt(text.length() - 1) == '\n' ? lastIndent(indent) : indent, "return " + any(2));
    }
    parameters = outer;
    inFunction = outerIn;
    loops = outerLoops;
  }

  /** The indent of the statements of the block that began behind this indent, as far as can be told. */
  private int lastIndent(int outer) {
    String[] lines = text.toString().split("\n");
    int found = outer + 1;
    for (int i = lines.length - 1; i >= 0; i--) {
      String s = lines[i];
      int n = 0;
      while (n < s.length() && s.charAt(n) == ' ') n++;
      if (n == s.length() || s.charAt(n) == '#') continue;
      if (n <= outer) break;
      found = n;
    }
    return found;
  }

  private void classOf(int indent, int depth) {
    line(indent, "class " + one(CLASSES) + (below(2) == 0 ? "(" + one(CLASSES) + ")" : "") + ":");
    int n = 1 + below(3);
    for (int i = 0; i < n; i++) {
      switch (below(4)) {
        case 0: line(indent + 1, "pass"); break;
        case 1: line(indent + 1, one(ATTRIBUTES) + " = " + any(2)); break;
        default: method(indent + 1, depth + 1);
      }
    }
  }

  private void method(int indent, int depth) {
    List<String> outer = parameters;
    boolean outerIn = inFunction;
    int outerLoops = loops;
    parameters = new ArrayList<>(List.of("x"));
    if (below(3) == 0) parameters.add("y");
    line(indent, "def " + one("init", "get", "get", "n") + "(" + String.join(", ", parameters) + "):");
    inFunction = true;
    loops = 0;
    line(indent + 1, one("x.v = " + any(1), "x.me = x", "x.n = y", "print(x, alive())", "x = None", "pass"));
    line(indent + 1, one("return x.v", "return " + any(1), "x.next = " + any(1), "pass"));
    parameters = outer;
    inFunction = outerIn;
    loops = outerLoops;
  }

  private void attempt(int indent, int depth) {
    line(indent, "try:");
    block(indent, depth);
    line(indent, one("except:", "except e:", "except a:"));
    if (below(2) == 0) line(indent + 1, one("print(e)", "print(alive())", "pass", "e = None"));
    else block(indent, depth);
  }

  private String name() {
    if (!parameters.isEmpty() && below(3) == 0) return parameters.get(below(parameters.size()));
    return one(NAMES);
  }

  private String intName() {
    return below(8) == 0 ? name() : one("a", "b", "c");
  }

  private String listName() {
    return below(8) == 0 ? name() : one("l", "m");
  }

  private String dictName() {
    return below(8) == 0 ? name() : "d";
  }

  private String instanceName() {
    return below(8) == 0 ? name() : one("x", "y", "A");
  }

  /** A name with a value of its kind. */
  private String assignment() {
    switch (below(7)) {
      case 0: return intName() + " = " + int_(2);
      case 1: return listName() + " = " + list(2);
      case 2: return dictName() + " = " + dict(2);
      case 3: return instanceName() + " = " + one(CLASSES) + "(" + (below(2) == 0 ? int_(1) : "") + ")";
      case 4: return instanceName() + "." + one(ATTRIBUTES) + " = " + any(2);
      case 5: return listName() + "[" + int_(1) + "] = " + any(2);
      default: return name() + " = " + any(2);
    }
  }

  private String post() {
    switch (below(8)) {
      case 0: return name() + "." + one(ATTRIBUTES);
      case 1: return name() + "[" + key(1) + "]";
      case 2: return call(1);
      case 3: return "(" + any(1) + ")";
      default: return name();
    }
  }

  private String arguments(int most) {
    int n = below(most + 1);
    StringBuilder s = new StringBuilder();
    for (int i = 0; i < n; i++) s.append(i > 0 ? ", " : "").append(any(2));
    return s.toString();
  }

  private String call(int deep) {
    String callee = below(3) == 0 ? one(CLASSES) : below(3) == 0 ? name() + "." + one("get", "init", "n") : one(FUNCTIONS);
    if (below(12) == 0) callee = name();
    int n = below(3);
    StringBuilder s = new StringBuilder(callee + "(");
    for (int i = 0; i < n; i++) s.append(i > 0 ? ", " : "").append(deep > 0 ? any(deep - 1) : name());
    return s + ")";
  }

  private String key(int deep) {
    return below(4) == 0 ? string(deep) : below(12) == 0 ? any(deep) : one("0", "1", "-1", "2", "-2", int_(deep));
  }

  private String any(int deep) {
    switch (below(deep > 0 ? 13 : 4)) {
      case 0: return name();
      case 1: return one("None", "True", "False", "0", "1");
      case 2: return name();
      case 3: return int_(deep);
      case 4: return string(deep);
      case 5: return list(deep);
      case 6: return dict(deep);
      case 7: return call(deep);
      case 8: return post();
      case 9: return "(" + any(deep - 1) + one(" or ", " and ", " == ", " != ", " is ") + any(deep - 1) + ")";
      case 10: return one("not ", "") + "(" + any(deep - 1) + ")";
      case 11: return "(" + any(deep - 1) + " in " + one(list(deep - 1), dict(deep - 1), listName()) + ")";
      default: return one("len(" + list(deep - 1) + ")", "keys(" + dict(deep - 1) + ")", "text(" + int_(deep - 1) + ")",
          "refs(" + one(listName(), instanceName()) + ")", "alive()", "collect()", "pop(" + listName() + ")", "print(" + name() + ")",
          instanceName() + "." + one(ATTRIBUTES), instanceName() + ".get()", listName() + "[" + int_(0) + "]");
    }
  }

  private String int_(int deep) {
    if (deep <= 0) return one("0", "1", "2", "3", "7", "255", "9223372036854775807", intName(), intName(), intName());
    switch (below(6)) {
      case 0: return int_(deep - 1) + one(" + ", " - ", " * ", " // ", " % ") + int_(deep - 1);
      case 1: return "-" + int_(deep - 1);
      case 2: return "(" + int_(deep - 1) + one(" < ", " <= ", " > ", " >= ") + int_(deep - 1) + ")";
      case 3: return one("len(" + listName() + ")", "alive()", "refs(" + listName() + ")");
      default: return int_(0);
    }
  }

  private String string(int deep) {
    if (deep <= 0 || below(3) > 0) return one("''", "'a'", "'b'", "'ab'", "'abcdefg'", "'abcdefgh'", "'# '", "'zzzzzzzzzzzzzzz'", "'k'");
    return one(string(deep - 1) + " + " + string(deep - 1), string(deep - 1) + "[" + int_(0) + "]",
        "text(" + int_(deep - 1) + ")", "(" + string(deep - 1) + one(" < ", " <= ", " > ", " >= ") + string(deep - 1) + ")");
  }

  private String list(int deep) {
    if (deep <= 0) return one("[]", "[1]", listName(), listName(), "[1, 2]");
    switch (below(6)) {
      case 0: return "[" + any(deep - 1) + ", " + any(deep - 1) + "]";
      case 1: return "[" + any(deep - 1) + "]";
      case 2: return list(deep - 1) + " + " + list(deep - 1);
      case 3: return "range(" + one("3", "2, 5", "0", "300", "301", int_(deep - 1)) + ")";
      case 4: return "keys(" + dict(deep - 1) + ")";
      default: return list(0);
    }
  }

  private String dict(int deep) {
    if (deep <= 0) return one("{}", "{1: 2}", dictName(), dictName());
    return "{" + key(deep - 1) + ": " + any(deep - 1) + (below(2) == 0 ? ", " + key(deep - 1) + ": " + any(deep - 1) : "") + "}";
  }
}
