import java.util.ArrayList;
import java.util.HashMap;
import java.util.HashSet;
import java.util.LinkedHashMap;
import java.util.List;
import java.util.Map;
import java.util.Set;

/**
 * The document a second time, in another way: texts become trees, and what is held is counted
 * anew each time that it matters. Slow, and not kept to LANGUAGE.md.
 */
final class Model {
  static final Object NONE = new Object();
  static final Set<String> WORDS = Set.of("if", "elif", "else", "while", "for", "in", "def", "class", "return",
      "break", "continue", "pass", "del", "global", "try", "except", "raise", "and", "or", "not", "is", "None",
      "True", "False");
  static final Set<String> BUILT_INS = Set.of("print", "len", "range", "push", "pop", "keys", "text", "refs",
      "alive", "collect");

  @SuppressWarnings("serial")
  static final class Fault extends RuntimeException {
    final int line;
    Fault(int line) { super(null, null, false, false); this.line = line; }
  }

  @SuppressWarnings("serial")
  static final class Err extends RuntimeException {
    final int code;
    Err(int code) { super(null, null, false, false); this.code = code; }
  }

  @SuppressWarnings("serial")
  static final class Leave extends RuntimeException {
    final String how;
    final transient Object value;
    Leave(String how, Object value) { super(null, null, false, false); this.how = how; this.value = value; }
  }

  // ---- trees

  static final class Node {
    final String kind;
    final int line;
    String name;
    Object value;
    List<Node> parts = new ArrayList<>();
    List<List<Node>> blocks = new ArrayList<>();
    Def def;
    Node(String kind, int line) { this.kind = kind; this.line = line; }
    Node(String kind, int line, Node... parts) { this(kind, line); this.parts.addAll(List.of(parts)); }
  }

  static final class Def {
    String name;
    Def outer;
    List<String> parameters = new ArrayList<>();
    Set<String> locals = new HashSet<>();
    Set<String> globals = new HashSet<>();
    List<Node> block;
  }

  static final class Token {
    final String kind;
    final String text;
    Token(String kind, String text) { this.kind = kind; this.text = text; }
  }

  static final class Line {
    int number;
    int indent;
    List<Token> tokens = new ArrayList<>();
    boolean bad;
  }

  // ---- reading

  static final class Reader {
    final List<Line> lines = new ArrayList<>();
    int at;
    List<Token> tokens;
    int token;
    int number;
    Def def;
    int loops;

    Reader(String text) {
      String[] all = text.split("\n", -1);
      for (int i = 0; i < all.length; i++) {
        Line line = lineOf(all[i]);
        line.number = i + 1;
        if (line.bad || !line.tokens.isEmpty()) lines.add(line);
      }
    }

    static Line lineOf(String s) {
      Line line = new Line();
      int i = 0;
      while (i < s.length() && s.charAt(i) == ' ') i++;
      line.indent = i;
      while (i < s.length() && !line.bad) {
        char c = s.charAt(i);
        int j = i + 1;
        if (c == ' ') {
          i = j;
          continue;
        }
        if (c == '#') break;
        if (String.valueOf(c).matches("[A-Za-z_]")) {
          while (j < s.length() && String.valueOf(s.charAt(j)).matches("[A-Za-z0-9_]")) j++;
          String word = s.substring(i, j);
          line.bad = word.length() > 12;
          line.tokens.add(new Token(WORDS.contains(word) ? word : "name", word));
        } else if (c >= '0' && c <= '9') {
          while (j < s.length() && s.charAt(j) >= '0' && s.charAt(j) <= '9') j++;
          String digits = s.substring(i, j);
          line.bad = new java.math.BigInteger(digits).bitLength() > 63;
          line.tokens.add(new Token("number", digits));
        } else if (c == '\'') {
          int close = s.indexOf('\'', j);
          if (close < 0 || close - j > 15 || !s.substring(j, close).matches("[ -~]*")) {
            line.bad = true;
          } else {
            line.tokens.add(new Token("string", s.substring(j, close)));
            j = close + 1;
          }
        } else {
          String two = s.substring(i, Math.min(i + 2, s.length()));
          if (Set.of("//", "+=", "-=", "*=", "==", "!=", "<=", ">=").contains(two)) {
            j = i + 2;
            line.tokens.add(new Token(two, two));
          } else if ("()[]{},:.+-*%=<>".indexOf(c) >= 0) {
            line.tokens.add(new Token(String.valueOf(c), String.valueOf(c)));
          } else {
            line.bad = true;
          }
        }
        i = j;
      }
      return line;
    }

    List<Node> text() {
      List<Node> all = statements(0, 0, null);
      if (at < lines.size()) throw new Fault(lines.get(at).number);
      return all;
    }

    RuntimeException bad() {
      return new Fault(number);
    }

    List<Node> statements(int indent, int depth, Node ofClass) {
      List<Node> found = new ArrayList<>();
      while (at < lines.size() && lines.get(at).indent == indent) found.add(statement(depth, ofClass));
      if (at < lines.size() && lines.get(at).indent > indent) throw new Fault(lines.get(at).number);
      return found;
    }

    void open() {
      Line line = lines.get(at);
      at++;
      number = line.number;
      if (line.bad) throw bad();
      tokens = line.tokens;
      token = 0;
    }

    List<Node> block(int depth, Node ofClass) {
      take(":");
      close();
      int head = lines.get(at - 1).indent;
      if (at >= lines.size()) throw new Fault(lines.get(lines.size() - 1).number);
      Line next = lines.get(at);
      if (next.indent <= head || depth > 10) throw new Fault(next.number);
      return statements(next.indent, depth, ofClass);
    }

    void close() {
      if (token != tokens.size()) throw bad();
    }

    boolean is(String kind) {
      return token < tokens.size() && tokens.get(token).kind.equals(kind);
    }

    String take(String kind) {
      if (!is(kind)) throw bad();
      token++;
      return tokens.get(token - 1).text;
    }

    boolean takes(String kind) {
      boolean is = is(kind);
      if (is) token++;
      return is;
    }

    void binds(String name) {
      if (def != null) def.locals.add(name);
    }

    boolean continues(int indent, String word) {
      if (at >= lines.size()) return false;
      Line next = lines.get(at);
      return next.indent == indent && !next.tokens.isEmpty() && next.tokens.get(0).kind.equals(word);
    }

    Node statement(int depth, Node ofClass) {
      open();
      Node node = new Node(tokens.get(0).kind, number);
      int indent = lines.get(at - 1).indent;
      if (ofClass != null && !is("def") && !is("pass") && !is("name")) throw bad();
      if (takes("if")) {
        node.parts.add(expr(0));
        node.blocks.add(block(depth + 1, null));
        while (continues(indent, "elif")) {
          open();
          token++;
          node.parts.add(expr(0));
          node.blocks.add(block(depth + 1, null));
        }
        if (continues(indent, "else")) {
          open();
          token++;
          node.blocks.add(block(depth + 1, null));
        }
        return node;
      }
      if (takes("while")) {
        node.parts.add(expr(0));
        loops++;
        node.blocks.add(block(depth + 1, null));
        loops--;
        return node;
      }
      if (takes("for")) {
        node.name = take("name");
        binds(node.name);
        take("in");
        node.parts.add(expr(0));
        loops++;
        node.blocks.add(block(depth + 1, null));
        loops--;
        return node;
      }
      if (takes("try")) {
        node.blocks.add(block(depth + 1, null));
        if (at >= lines.size()) throw new Fault(lines.get(lines.size() - 1).number);
        if (!continues(indent, "except")) throw new Fault(lines.get(at).number);
        open();
        token++;
        if (is("name")) {
          node.name = take("name");
          binds(node.name);
        }
        node.blocks.add(block(depth + 1, null));
        return node;
      }
      if (takes("def")) return def(node, depth, ofClass);
      if (takes("class")) {
        node.name = take("name");
        binds(node.name);
        if (takes("(")) {
          node.value = take("name");
          take(")");
        }
        node.blocks.add(block(depth + 1, node));
        return node;
      }
      simple(node, ofClass);
      close();
      return node;
    }

    Node def(Node node, int depth, Node ofClass) {
      node.name = take("name");
      if (ofClass == null) binds(node.name);
      Def made = new Def();
      made.name = node.name;
      made.outer = def;
      node.def = made;
      take("(");
      while (!is(")")) {
        String name = take("name");
        if (made.parameters.contains(name)) throw bad();
        made.parameters.add(name);
        made.locals.add(name);
        if (made.parameters.size() > 8) throw bad();
        if (is(")")) break;
        take(",");
        if (is(")")) throw bad();
      }
      take(")");
      int outerLoops = loops;
      loops = 0;
      def = made;
      made.block = block(depth + 1, null);
      made.locals.removeAll(made.globals);
      def = made.outer;
      loops = outerLoops;
      return node;
    }

    void simple(Node node, Node ofClass) {
      if (takes("pass")) return;
      if (ofClass != null) {
        node.name = take("name");
        take("=");
        node.parts.add(expr(0));
        return;
      }
      if (takes("break") || takes("continue")) {
        if (loops == 0) throw bad();
      } else if (takes("return")) {
        if (def == null) throw bad();
        if (token < tokens.size()) node.parts.add(expr(0));
      } else if (takes("raise")) {
        node.parts.add(expr(0));
      } else if (takes("global")) {
        if (def == null) throw bad();
        do {
          String name = take("name");
          if (def.parameters.contains(name)) throw bad();
          def.globals.add(name);
        } while (takes(","));
      } else if (takes("del")) {
        node.parts.add(target(expr(0)));
      } else {
        binding(node);
      }
    }

    void binding(Node node) {
      Node first = expr(0);
      node.parts.add(first);
      for (String sign : List.of("=", "+=", "-=", "*=")) {
        if (takes(sign)) {
          target(first);
          node.name = sign;
          node.parts.add(expr(0));
          return;
        }
      }
    }

    /** A parenthesised expression has a node of its own, so that it is no target. */
    Node target(Node node) {
      if (node.kind.equals("name")) binds(node.name);
      else if (!node.kind.equals("index") && !node.kind.equals("attr")) throw bad();
      return node;
    }

    Node expr(int depth) {
      if (depth > 12) throw bad();
      Node left = both(depth);
      while (takes("or")) left = new Node("or", number, left, both(depth));
      return left;
    }

    Node both(int depth) {
      Node left = not(depth);
      while (takes("and")) left = new Node("and", number, left, not(depth));
      return left;
    }

    Node not(int depth) {
      if (depth > 12) throw bad();
      if (takes("not")) return new Node("not", number, not(depth + 1));
      Node left = sum(depth);
      for (String sign : List.of("==", "!=", "<", "<=", ">", ">=", "is", "in")) {
        if (takes(sign)) return new Node(sign.equals("is") ? "==" : sign, number, left, sum(depth));
      }
      return left;
    }

    Node sum(int depth) {
      Node left = term(depth);
      while (is("+") || is("-")) {
        String sign = take(tokens.get(token).kind);
        left = new Node(sign, number, left, term(depth));
      }
      return left;
    }

    Node term(int depth) {
      Node left = factor(depth);
      while (is("*") || is("//") || is("%")) {
        String sign = take(tokens.get(token).kind);
        left = new Node(sign, number, left, factor(depth));
      }
      return left;
    }

    Node factor(int depth) {
      if (depth > 12) throw bad();
      if (takes("-")) return new Node("neg", number, factor(depth + 1));
      Node left = atom(depth);
      while (true) {
        if (takes("(")) {
          Node call = new Node("call", number, left);
          call.parts.addAll(list(depth, ")", 8));
          left = call;
        } else if (takes("[")) {
          left = new Node("index", number, left, expr(depth + 1));
          take("]");
        } else if (takes(".")) {
          left = new Node("attr", number, left);
          left.name = take("name");
        } else {
          return left;
        }
      }
    }

    List<Node> list(int depth, String close, int most) {
      List<Node> found = new ArrayList<>();
      if (depth + 1 > 12) throw bad();
      if (takes(close)) return found;
      do {
        found.add(expr(depth + 1));
      } while (takes(","));
      take(close);
      if (found.size() > most) throw bad();
      return found;
    }

    Node constant(Object value) {
      Node node = new Node("constant", number);
      node.value = value;
      token++;
      return node;
    }

    Node atom(int depth) {
      if (token >= tokens.size()) throw bad();
      Token t = tokens.get(token);
      switch (t.kind) {
        case "name": {
          Node node = new Node("name", number);
          node.name = t.text;
          token++;
          return node;
        }
        case "number": return constant(Long.parseLong(t.text));
        case "string": return constant(t.text);
        case "None": return constant(NONE);
        case "True": return constant(1L);
        case "False": return constant(0L);
        case "(": {
          token++;
          if (depth + 1 > 12) throw bad();
          Node inner = new Node("brackets", number, expr(depth + 1));
          take(")");
          return inner;
        }
        case "[": {
          token++;
          Node node = new Node("list", number);
          node.parts.addAll(list(depth, "]", 40));
          return node;
        }
        case "{": {
          token++;
          Node node = new Node("dict", number);
          if (depth + 1 > 12) throw bad();
          if (takes("}")) return node;
          do {
            node.parts.add(expr(depth + 1));
            take(":");
            node.parts.add(expr(depth + 1));
          } while (takes(","));
          take("}");
          if (node.parts.size() > 40) throw bad();
          return node;
        }
        default: throw bad();
      }
    }
  }

  // ---- the world

  static final class Obj {
    final String kind;
    final List<Object> items = new ArrayList<>();
    final Map<Object, Object> map = new LinkedHashMap<>();
    Def def;
    String name;
    Obj first;
    Obj second;
    boolean exists = true;
    Obj(String kind) { this.kind = kind; }
    List<Object> held() {
      List<Object> all = new ArrayList<>(items);
      all.addAll(map.values());
      if (first != null) all.add(first);
      if (second != null) all.add(second);
      return all;
    }
  }

  final Map<String, Object> globals = new LinkedHashMap<>();
  List<Obj> world = new ArrayList<>();
  final List<Object> needs = new ArrayList<>();
  StringBuilder out = new StringBuilder();
  int steps;
  int fuel;
  int line;
  int latestLine;
  int depth;

  int holdsOf(Obj wanted, boolean withNeeds) {
    int n = 0;
    for (Obj o : world) for (Object v : o.held()) if (v == wanted) n++;
    for (Object v : globals.values()) if (v == wanted) n++;
    if (withNeeds) for (Object v : needs) if (v == wanted) n++;
    return n;
  }

  void purge() {
    Map<Obj, Integer> holds = new HashMap<>();
    for (Obj o : world) holds.put(o, 0);
    List<Object> all = new ArrayList<>(needs);
    all.addAll(globals.values());
    for (Obj o : world) all.addAll(o.held());
    for (Object v : all) if (v instanceof Obj) holds.merge((Obj) v, 1, Integer::sum);
    List<Obj> gone = new ArrayList<>();
    for (Obj o : world) if (holds.get(o) == 0) gone.add(o);
    for (int i = 0; i < gone.size(); i++) {
      gone.get(i).exists = false;
      for (Object v : gone.get(i).held()) {
        if (v instanceof Obj && holds.merge((Obj) v, -1, Integer::sum) == 0) gone.add((Obj) v);
      }
    }
    world.removeIf(o -> !o.exists);
  }

  int collect() {
    purge();
    Set<Obj> reached = new HashSet<>();
    List<Object> open = new ArrayList<>(needs);
    open.addAll(globals.values());
    for (int i = 0; i < open.size(); i++) {
      if (open.get(i) instanceof Obj && reached.add((Obj) open.get(i))) open.addAll(((Obj) open.get(i)).held());
    }
    int before = world.size();
    for (Obj o : world) if (!reached.contains(o)) o.exists = false;
    world.removeIf(o -> !o.exists);
    return before - world.size();
  }

  Obj create(String kind) {
    if (world.size() >= 1500) purge();
    if (world.size() >= 1500) throw new Err(8);
    Obj o = new Obj(kind);
    world.add(o);
    return o;
  }

  int count(int what) {
    purge();
    String[] kinds = {"", "list", "dict", "function", "class", "instance", "method", "frame"};
    if (what == 0) return world.size();
    if (what == 8) return globals.size();
    if (what == 9) return steps;
    int n = 0;
    for (Obj o : world) if (o.kind.equals(kinds[what])) n++;
    return n;
  }

  int run(String text, int most) {
    out = new StringBuilder();
    steps = 0;
    latestLine = 0;
    List<Node> tree;
    try {
      tree = new Reader(text).text();
    } catch (Fault f) {
      latestLine = f.line;
      return -1;
    }
    fuel = most;
    depth = 0;
    needs.clear();
    int code = 0;
    try {
      block(tree, null, null);
    } catch (Err e) {
      latestLine = line;
      code = e.code;
    }
    needs.clear();
    purge();
    return code;
  }

  void step(int at) {
    line = at;
    if (steps >= fuel) throw new Err(100);
    steps++;
  }

  void cut(int height) {
    while (needs.size() > height) needs.remove(needs.size() - 1);
  }

  void block(List<Node> nodes, Def def, Obj frame) {
    for (Node node : nodes) {
      int height = needs.size();
      statement(node, def, frame);
      cut(height);
    }
  }

  Object need(Object value) {
    needs.add(value);
    return value;
  }

  void statement(Node node, Def def, Obj frame) {
    step(node.line);
    switch (node.kind) {
      case "if": {
        for (int i = 0; i < node.parts.size(); i++) {
          if (isTrue(eval(node.parts.get(i), def, frame))) {
            block(node.blocks.get(i), def, frame);
            return;
          }
        }
        if (node.blocks.size() > node.parts.size()) block(node.blocks.get(node.parts.size()), def, frame);
        return;
      }
      case "while":
        while (isTrue(eval(node.parts.get(0), def, frame))) {
          if (!turn(node, def, frame)) return;
        }
        return;
      case "for": {
        Object list = need(eval(node.parts.get(0), def, frame));
        if (!is(list, "list")) throw new Err(2);
        for (int i = 0; i < ((Obj) list).items.size(); i++) {
          bind(node.name, ((Obj) list).items.get(i), def, frame);
          if (!turn(node, def, frame)) return;
        }
        return;
      }
      case "try": {
        int height = needs.size();
        int calls = depth;
        try {
          block(node.blocks.get(0), def, frame);
        } catch (Err e) {
          if (e.code == 100) throw e;
          cut(height);
          depth = calls;
          if (node.name != null) bind(node.name, (long) e.code, def, frame);
          block(node.blocks.get(1), def, frame);
        }
        return;
      }
      case "def": bind(node.name, function(node, frame), def, frame); return;
      case "class": bind(node.name, classOf(node, def, frame), def, frame); return;
      case "pass": case "global": return;
      case "break": case "continue": throw new Leave(node.kind, null);
      case "return":
        throw new Leave("return", node.parts.isEmpty() ? NONE : eval(node.parts.get(0), def, frame));
      case "raise": {
        Object v = eval(node.parts.get(0), def, frame);
        throw new Err(v instanceof Long && (Long) v >= 10 && (Long) v <= 99 ? (int) (long) (Long) v : 2);
      }
      case "del": delete(node.parts.get(0), def, frame); return;
      default: binding(node, def, frame);
    }
  }

  /** Whether the loop goes on. */
  boolean turn(Node node, Def def, Obj frame) {
    int height = needs.size();
    try {
      block(node.blocks.get(0), def, frame);
    } catch (Leave l) {
      if (l.how.equals("return")) throw l;
      cut(height);
      if (l.how.equals("break")) return false;
    }
    step(node.line);
    return true;
  }

  Obj function(Node node, Obj frame) {
    Obj f = create("function");
    f.def = node.def;
    f.first = frame;
    return f;
  }

  Obj classOf(Node node, Def def, Obj frame) {
    int height = needs.size();
    List<String> names = new ArrayList<>();
    for (Node s : node.blocks.get(0)) {
      step(s.line);
      if (s.kind.equals("pass")) continue;
      Object value = s.kind.equals("def") ? function(s, frame) : eval(s.parts.get(0), def, frame);
      int at = names.indexOf(s.name);
      if (at >= 0) {
        needs.set(height + at, value);
      } else {
        if (names.size() >= 40) throw new Err(8);
        names.add(s.name);
        needs.add(value);
      }
    }
    line = node.line;
    Object base = null;
    if (node.value != null) {
      base = need(look((String) node.value, def, frame));
      if (!is(base, "class")) throw new Err(2);
    }
    Obj made = create("class");
    made.name = node.name;
    made.first = (Obj) base;
    for (int i = 0; i < names.size(); i++) made.map.put(names.get(i), needs.get(height + i));
    return made;
  }

  // ---- names

  Map<String, Object> holderOf(String name, Def def, Obj frame) {
    if (def == null || def.globals.contains(name)) return globals;
    Obj f = frame;
    for (Def d = def; d != null; d = d.outer) {
      if (d.locals.contains(name)) return cast(f.map);
      f = f.first;
    }
    return globals;
  }

  @SuppressWarnings("unchecked")
  static Map<String, Object> cast(Object map) {
    return (Map<String, Object>) map;
  }

  Object look(String name, Def def, Obj frame) {
    Object v = holderOf(name, def, frame).get(name);
    if (v == null) throw new Err(1);
    return v;
  }

  void bind(String name, Object value, Def def, Obj frame) {
    holderOf(name, def, frame).put(name, value);
  }

  // ---- targets

  void delete(Node t, Def def, Obj frame) {
    if (t.kind.equals("name")) {
      if (holderOf(t.name, def, frame).remove(t.name) == null) throw new Err(1);
      return;
    }
    Object x = need(eval(t.parts.get(0), def, frame));
    if (t.kind.equals("attr")) {
      if (!is(x, "instance") && !is(x, "class")) throw new Err(2);
      if (((Obj) x).map.remove(t.name) == null) throw new Err(9);
      return;
    }
    Object i = need(eval(t.parts.get(1), def, frame));
    if (is(x, "list")) ((Obj) x).items.remove(indexOf(i, ((Obj) x).items.size()));
    else if (is(x, "dict")) {
      key(i);
      if (((Obj) x).map.remove(i) == null) throw new Err(4);
    } else throw new Err(2);
  }

  void put(Object x, Object i, Object value) {
    if (is(x, "list")) {
      ((Obj) x).items.set(indexOf(i, ((Obj) x).items.size()), value);
    } else if (is(x, "dict")) {
      key(i);
      Obj d = (Obj) x;
      if (!d.map.containsKey(i) && d.map.size() >= 100) throw new Err(8);
      d.map.put(i, value);
    } else throw new Err(2);
  }

  void putAttribute(Object x, String name, Object value) {
    if (!is(x, "instance") && !is(x, "class")) throw new Err(2);
    Obj o = (Obj) x;
    if (!o.map.containsKey(name) && o.map.size() >= 40) throw new Err(8);
    o.map.put(name, value);
  }

  void binding(Node node, Def def, Obj frame) {
    Node t = node.parts.get(0);
    if (node.name == null) {
      eval(t, def, frame);
      return;
    }
    if (node.name.equals("=")) {
      Object value = need(eval(node.parts.get(1), def, frame));
      if (t.kind.equals("name")) {
        bind(t.name, value, def, frame);
        return;
      }
      Object x = need(eval(t.parts.get(0), def, frame));
      if (t.kind.equals("attr")) putAttribute(x, t.name, value);
      else put(x, need(eval(t.parts.get(1), def, frame)), value);
      return;
    }
    String sign = node.name.substring(0, 1);
    if (t.kind.equals("name")) {
      Object old = need(look(t.name, def, frame));
      Object more = need(eval(node.parts.get(1), def, frame));
      bind(t.name, operate(sign, old, more), def, frame);
      return;
    }
    Object x = need(eval(t.parts.get(0), def, frame));
    Object i = t.kind.equals("attr") ? null : need(eval(t.parts.get(1), def, frame));
    Object old = need(i == null ? attribute(x, t.name) : index(x, i));
    Object more = need(eval(node.parts.get(1), def, frame));
    Object result = need(operate(sign, old, more));
    if (i == null) putAttribute(x, t.name, result);
    else put(x, i, result);
  }

  // ---- values

  static boolean is(Object v, String kind) {
    return v instanceof Obj && ((Obj) v).kind.equals(kind);
  }

  static boolean isTrue(Object v) {
    if (v == NONE || v.equals(0L) || v.equals("")) return false;
    if (is(v, "list")) return !((Obj) v).items.isEmpty();
    if (is(v, "dict")) return !((Obj) v).map.isEmpty();
    return true;
  }

  static void key(Object v) {
    if (!(v instanceof Long) && !(v instanceof String)) throw new Err(2);
  }

  static int indexOf(Object i, int size) {
    if (!(i instanceof Long)) throw new Err(2);
    long at = (Long) i;
    if (at < 0) at += size;
    if (at < 0 || at >= size) throw new Err(3);
    return (int) at;
  }

  Object eval(Node node, Def def, Obj frame) {
    int height = needs.size();
    Object value = find(node, def, frame);
    cut(height);
    return value;
  }

  Object find(Node node, Def def, Obj frame) {
    switch (node.kind) {
      case "constant": return node.value;
      case "name": return look(node.name, def, frame);
      case "brackets": return eval(node.parts.get(0), def, frame);
      case "or": case "and": {
        Object left = eval(node.parts.get(0), def, frame);
        return isTrue(left) == node.kind.equals("or") ? left : eval(node.parts.get(1), def, frame);
      }
      case "not": return isTrue(eval(node.parts.get(0), def, frame)) ? 0L : 1L;
      case "neg": {
        Object v = eval(node.parts.get(0), def, frame);
        if (!(v instanceof Long)) throw new Err(2);
        if ((Long) v == Long.MIN_VALUE) throw new Err(6);
        return -(Long) v;
      }
      case "list": {
        List<Object> items = new ArrayList<>();
        for (Node part : node.parts) items.add(need(eval(part, def, frame)));
        Obj list = create("list");
        list.items.addAll(items);
        return list;
      }
      case "dict": {
        List<Object> items = new ArrayList<>();
        for (Node part : node.parts) items.add(need(eval(part, def, frame)));
        for (int i = 0; i < items.size(); i += 2) key(items.get(i));
        Obj dict = create("dict");
        for (int i = 0; i < items.size(); i += 2) dict.map.put(items.get(i), items.get(i + 1));
        return dict;
      }
      case "index": {
        Object x = need(eval(node.parts.get(0), def, frame));
        return index(x, need(eval(node.parts.get(1), def, frame)));
      }
      case "attr": return attribute(need(eval(node.parts.get(0), def, frame)), node.name);
      case "call": return call(node, def, frame);
      default: {
        Object a = need(eval(node.parts.get(0), def, frame));
        Object b = need(eval(node.parts.get(1), def, frame));
        return operate(node.kind, a, b);
      }
    }
  }

  Object index(Object x, Object i) {
    if (x instanceof String) {
      int at = indexOf(i, ((String) x).length());
      return ((String) x).substring(at, at + 1);
    }
    if (is(x, "list")) return ((Obj) x).items.get(indexOf(i, ((Obj) x).items.size()));
    if (!is(x, "dict")) throw new Err(2);
    key(i);
    Object v = ((Obj) x).map.get(i);
    if (v == null) throw new Err(4);
    return v;
  }

  static Object ofClass(Obj c, String name) {
    for (Obj k = c; k != null; k = k.first) if (k.map.containsKey(name)) return k.map.get(name);
    return null;
  }

  Object attribute(Object x, String name) {
    if (!is(x, "instance") && !is(x, "class")) throw new Err(2);
    Obj o = (Obj) x;
    if (o.kind.equals("class")) {
      Object v = ofClass(o, name);
      if (v == null) throw new Err(9);
      return v;
    }
    if (o.map.containsKey(name)) return o.map.get(name);
    Object v = ofClass(o.first, name);
    if (v == null) throw new Err(9);
    if (!is(v, "function")) return v;
    Obj method = create("method");
    method.first = (Obj) v;
    method.second = o;
    return method;
  }

  static boolean equal(Object a, Object b) {
    return a == b || a instanceof Long && a.equals(b) || a instanceof String && a.equals(b);
  }

  Object operate(String sign, Object a, Object b) {
    if (sign.equals("==")) return equal(a, b) ? 1L : 0L;
    if (sign.equals("!=")) return equal(a, b) ? 0L : 1L;
    if (sign.equals("in")) {
      if (is(b, "dict")) {
        key(a);
        return ((Obj) b).map.containsKey(a) ? 1L : 0L;
      }
      if (!is(b, "list")) throw new Err(2);
      for (Object v : ((Obj) b).items) if (equal(a, v)) return 1L;
      return 0L;
    }
    if (sign.equals("+") && a instanceof String && b instanceof String) {
      String joined = (String) a + b;
      if (joined.length() > 15) throw new Err(8);
      return joined;
    }
    if (sign.equals("+") && is(a, "list") && is(b, "list")) {
      if (((Obj) a).items.size() + ((Obj) b).items.size() > 300) throw new Err(8);
      Obj list = create("list");
      list.items.addAll(((Obj) a).items);
      list.items.addAll(((Obj) b).items);
      return list;
    }
    if (a instanceof String && b instanceof String && "<=>=".contains(sign)) {
      int c = ((String) a).compareTo((String) b);
      return truth(sign, c);
    }
    if (!(a instanceof Long) || !(b instanceof Long)) throw new Err(2);
    long x = (Long) a;
    long y = (Long) b;
    try {
      switch (sign) {
        case "+": return Math.addExact(x, y);
        case "-": return Math.subtractExact(x, y);
        case "*": return Math.multiplyExact(x, y);
        case "//":
          if (y == 0) throw new Err(5);
          if (x == Long.MIN_VALUE && y == -1) throw new Err(6);
          return Math.floorDiv(x, y);
        case "%":
          if (y == 0) throw new Err(5);
          return Math.floorMod(x, y);
        default: return truth(sign, Long.compare(x, y));
      }
    } catch (ArithmeticException e) {
      throw new Err(6);
    }
  }

  static Object truth(String sign, int c) {
    switch (sign) {
      case "<": return c < 0 ? 1L : 0L;
      case "<=": return c <= 0 ? 1L : 0L;
      case ">": return c > 0 ? 1L : 0L;
      default: return c >= 0 ? 1L : 0L;
    }
  }

  // ---- calls

  Object call(Node node, Def def, Obj frame) {
    Node called = node.parts.get(0);
    String builtIn = null;
    if (called.kind.equals("name") && BUILT_INS.contains(called.name)
        && !holderOf(called.name, def, frame).containsKey(called.name)) {
      builtIn = called.name;
    }
    Object callee = builtIn != null ? null : need(eval(called, def, frame));
    List<Object> values = new ArrayList<>();
    for (int i = 1; i < node.parts.size(); i++) values.add(need(eval(node.parts.get(i), def, frame)));
    if (builtIn != null) return builtIn(builtIn, values);
    int height = needs.size() - values.size();
    if (is(callee, "function")) return enter((Obj) callee, null, values, height);
    if (is(callee, "method")) return enter(((Obj) callee).first, ((Obj) callee).second, values, height);
    if (!is(callee, "class")) throw new Err(2);
    Obj made = create("instance");
    made.first = (Obj) callee;
    // Below the values, so that these alone are cut off when the call has them.
    needs.add(height, made);
    Object init = ofClass((Obj) callee, "init");
    if (is(init, "function")) enter((Obj) init, made, values, height + 1);
    else if (!values.isEmpty()) throw new Err(2);
    return made;
  }

  Object enter(Obj function, Obj self, List<Object> values, int height) {
    List<Object> given = new ArrayList<>();
    if (self != null) given.add(self);
    given.addAll(values);
    Def def = function.def;
    if (given.size() != def.parameters.size()) throw new Err(2);
    if (depth >= 30) throw new Err(7);
    if (def.locals.size() > 300) throw new Err(8);
    Obj frame = create("frame");
    frame.first = function.first;
    for (int i = 0; i < given.size(); i++) frame.map.put(def.parameters.get(i), given.get(i));
    values.clear();
    cut(height);
    needs.add(frame);
    int from = line;
    depth++;
    Object result = NONE;
    try {
      block(def.block, def, frame);
    } catch (Leave l) {
      result = l.value;
    }
    depth--;
    line = from;
    cut(height);
    return result;
  }

  Object builtIn(String name, List<Object> v) {
    int n = v.size();
    if (name.equals("print")) {
      StringBuilder s = new StringBuilder();
      for (Object x : v) s.append(textOf(x)).append(' ');
      if (n > 0) s.setLength(s.length() - 1);
      s.append('\n');
      if (out.length() + s.length() > 4000) throw new Err(8);
      out.append(s);
      return NONE;
    }
    boolean ok = name.equals("range") ? n == 1 || n == 2
        : n == (name.equals("push") ? 2 : name.equals("alive") || name.equals("collect") ? 0 : 1);
    if (!ok) throw new Err(2);
    switch (name) {
      case "alive": purge(); return (long) world.size();
      case "collect": return (long) collect();
      case "refs":
        if (!(v.get(0) instanceof Obj)) throw new Err(2);
        purge();
        return (long) holdsOf((Obj) v.get(0), false);
      case "len":
        if (v.get(0) instanceof String) return (long) ((String) v.get(0)).length();
        if (is(v.get(0), "list")) return (long) ((Obj) v.get(0)).items.size();
        if (is(v.get(0), "dict")) return (long) ((Obj) v.get(0)).map.size();
        throw new Err(2);
      case "range": {
        for (Object x : v) if (!(x instanceof Long)) throw new Err(2);
        java.math.BigInteger from = java.math.BigInteger.valueOf(n == 2 ? (Long) v.get(0) : 0);
        java.math.BigInteger size = java.math.BigInteger.valueOf((Long) v.get(n - 1)).subtract(from);
        if (size.compareTo(java.math.BigInteger.valueOf(300)) > 0) throw new Err(8);
        Obj list = create("list");
        for (int i = 0; size.signum() > 0 && i < size.intValue(); i++) list.items.add(from.longValue() + i);
        return list;
      }
      case "push":
        if (!is(v.get(0), "list")) throw new Err(2);
        if (((Obj) v.get(0)).items.size() >= 300) throw new Err(8);
        ((Obj) v.get(0)).items.add(v.get(1));
        return NONE;
      case "pop": {
        if (!is(v.get(0), "list")) throw new Err(2);
        List<Object> items = ((Obj) v.get(0)).items;
        if (items.isEmpty()) throw new Err(3);
        return items.remove(items.size() - 1);
      }
      case "keys": {
        if (!is(v.get(0), "dict")) throw new Err(2);
        Obj list = create("list");
        list.items.addAll(((Obj) v.get(0)).map.keySet());
        return list;
      }
      default: {
        if (v.get(0) instanceof String) return v.get(0);
        if (!(v.get(0) instanceof Long)) throw new Err(2);
        String s = v.get(0).toString();
        if (s.length() > 15) throw new Err(8);
        return s;
      }
    }
  }

  static String inner(Object v) {
    if (v == NONE) return "None";
    if (v instanceof Long) return v.toString();
    if (v instanceof String) return "'" + v + "'";
    return "<" + ((Obj) v).kind + ">";
  }

  static String textOf(Object v) {
    if (v instanceof String) return (String) v;
    if (!(v instanceof Obj)) return inner(v);
    Obj o = (Obj) v;
    StringBuilder s = new StringBuilder();
    switch (o.kind) {
      case "list":
        for (Object x : o.items) s.append(s.length() == 0 ? "" : ", ").append(inner(x));
        return "[" + s + "]";
      case "dict":
        for (Map.Entry<Object, Object> e : o.map.entrySet()) {
          s.append(s.length() == 0 ? "" : ", ").append(inner(e.getKey())).append(": ").append(inner(e.getValue()));
        }
        return "{" + s + "}";
      case "function": return "<function " + o.def.name + ">";
      case "class": return "<class " + o.name + ">";
      case "instance": return "<instance " + o.first.name + ">";
      default: return "<method " + o.first.def.name + ">";
    }
  }
}
