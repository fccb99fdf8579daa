/** Promise 4: how much there is room for, and that one more is an error. */
public final class LimitsTest {
  private static final Check check = new Check();

  public static void main(String[] args) {
    objects();
    items();
    keys();
    attributes();
    frameNames();
    otherNames();
    check.end();
  }

  /** An object with so many lists, and one text done on it. */
  private static void with(int lists, String text, int error, String out) {
    SnakeCore core = new SnakeCore();
    StringBuilder fill = new StringBuilder("l = []\n");
    for (int i = 0; i < 4; i++) {
      fill.append("m = []\npush(l, m)\nfor i in range(300):\n push(m, [])\n");
    }
    fill.append("m = []\npush(l, m)\nwhile alive() < ").append(lists).append(":\n push(m, [])\nm = 0\n");
    check.due("fill to " + lists, Check.run(core, fill.toString()), 0);
    check.due("full", core.count(0), lists);
    check.due(text, Check.run(core, text), error);
    check.due("out of " + text, Check.out(core), out);
  }

  private static void objects() {
    with(1499, "x = []\nprint(alive())", 0, "1500\n");
    with(1500, "x = []", 8, "");
    with(1500, "try:\n x = {}\nexcept e:\n print(e, alive())", 0, "8 1500\n");
    with(1500, "pop(l[0])\nx = {}\nprint(alive())", 0, "1500\n");
    with(1500, "x = [] + []", 8, "");
    with(1498, "x = [] + []", 8, "");
    with(1497, "x = [] + []\nprint(alive())", 0, "1498\n");
    with(1500, "x = range(1)", 8, "");
    with(1500, "def f():\n pass", 8, "");
    with(1500, "class A:\n pass", 8, "");
    with(1499, "def f():\n return 5\nf()", 8, "");
    with(1498, "def f():\n return 5\nprint(f(), alive())", 0, "5 1499\n");
    with(1498, "def f():\n return []\nf()", 8, "");
    with(1499, "class A:\n pass\nA()", 8, "");
    with(1498, "class A:\n pass\nprint(A(), alive())", 0, "<instance A> 1500\n");
    // An instance comes before the values are looked at, and before the frame of init.
    with(1499, "class A:\n pass\nA(1)", 8, "");
    with(1498, "class A:\n pass\nA(1)", 2, "");
    with(1497, "class A:\n def init(o):\n  pass\nA()", 8, "");
    with(1496, "class A:\n def init(o):\n  pass\nprint(A(), alive())", 0, "<instance A> 1499\n");
    with(1497, "class A:\n def f(o):\n  return alive()\na = A()\na.f", 8, "");
    with(1495, "class A:\n def f(o):\n  return alive()\na = A()\nprint(a.f())", 0, "1500\n");
    with(1499, "keys({})", 8, "");
    with(1500, "x = 1 + 1\ny = 'a' + 'b'\nfor i in l:\n x = i\nprint(x is l[-1])", 0, "1\n");
    with(1500, "print(collect())\nl = None\nprint(alive())", 0, "0\n0\n");
  }

  private static void items() {
    check.does("l = range(300)\nprint(len(l + []))\npush(l, 1)", 8, 3, "300\n");
    check.does("l = range(299)\npush(l, 1)\nprint(len(l))\nl = l + [1]", 8, 4, "300\n");
    check.prints("l = range(150)\nl += l\nprint(len(l), l[299], l[-300])", "300 149 0\n");
    check.prints("l = range(300)\nprint(pop(l))\npush(l, 'x')\nprint(l[299])", "299\nx\n");
    // Every list there is may be full.
    SnakeCore core = new SnakeCore();
    String text = "l = []\nfor i in range(4):\n m = []\n push(l, m)\n for j in range(300):\n  push(m, range(300))\n"
        + "m = []\npush(l, m)\nwhile alive() < 1500:\n push(m, range(300))\nprint(alive(), l[3][299][299])\n";
    check.due("full lists", Check.run(core, text), 0);
    check.due("out", Check.out(core), "1500 299\n");
    check.due("collect", Check.run(core, "i = 0\nwhile i < 50:\n collect()\n i += 1"), 0);
    check.due("all go", Check.run(core, "l = 0\nm = 0\nprint(alive())"), 0);
    check.due("none", core.count(0), 0);
  }

  private static void keys() {
    String full = "d = {}\nfor i in range(100):\n d[i] = i\n";
    check.does(full + "print(len(d))\nd[5] = 'x'\nprint(d[5])\nd[100] = 1", 8, 7, "100\nx\n");
    check.prints(full + "del d[0]\nd['a'] = 1\nprint(len(d), keys(d)[99], keys(d)[0])", "100 a 1\n");
  }

  private static void attributes() {
    StringBuilder forty = new StringBuilder("class A:\n");
    for (int i = 0; i < 40; i++) forty.append(" a").append(i).append(" = ").append(i).append('\n');
    check.does(forty + " a5 = 'x'\nprint(A.a5, A.a39)\nA.a0 = 1\nA.b = 1", 8, 45, "x 39\n");
    check.does(forty + " b = print(1)\n c = print(2)\n", 8, 42, "1\n");
    check.does(forty + " def b():\n  pass\n", 8, 42, "");
    check.prints(forty + "del A.a7\nA.b = 5\nprint(A.b, A.a39, A.a6)", "5 39 6\n");
    StringBuilder own = new StringBuilder("class A:\n x = 1\na = A()\n");
    for (int i = 0; i < 40; i++) own.append("a.a").append(i).append(" = ").append(i).append('\n');
    check.does(own + "print(a.a0, a.a39)\na.a39 = 4\na.x = 1", 8, 46, "0 39\n");
  }

  /** One of 676 names that are no words. */
  private static String name(int number) {
    return "" + (char) ('A' + number / 26) + "0123456789bcdeghjklpqtuvwx".charAt(number % 26);
  }

  private static String function(int parameters, int names, boolean alsoGlobal) {
    StringBuilder s = new StringBuilder("def f(");
    for (int i = 0; i < parameters; i++) s.append(i > 0 ? "," : "").append("p").append(i);
    s.append("):\n if 0:\n");
    for (int i = parameters; i < names; i++) {
      s.append("  ").append(name(i)).append("=1\n");
    }
    if (alsoGlobal) s.append(" global B0\n");
    return s.append(" return 7\n").toString();
  }

  private static void frameNames() {
    check.prints(function(2, 300, false) + "print(f(1, 2))", "7\n");
    check.does(function(2, 301, false) + "f(1, 2)", 8, 303, "");
    check.prints(function(2, 301, true) + "print(f(1, 2))", "7\n");
    check.does(function(2, 301, false) + "f(1)", 2, 303, "");
    check.does(function(0, 400, false) + "try:\n f()\nexcept e:\n print(e, alive())\nf()", 8, 408, "8 1\n");
  }

  private static void otherNames() {
    SnakeCore core = new SnakeCore();
    // 512 calls can bring some 3400 names, of two bytes each; nothing is forgotten.
    String letters = "ABCDEFGHIJKLMNOPQRSTUVWXYZ0123456789bcdeghjklpqtuvwx_";
    int made = 0;
    for (int first = 0; first < 26; first++) {
      StringBuilder s = new StringBuilder();
      for (int second = 0; second < letters.length(); second++) {
        s.append((char) ('A' + first)).append(letters.charAt(second)).append('=').append(made % 10).append('\n');
        made++;
      }
      check.due("names from " + made, Check.run(core, s.toString()), 0);
    }
    check.due("names", core.count(8), made);
    Check.feed(core, "A3");
    check.due("A3", core.value(), 9);
    Check.feed(core, "Z_");
    check.due("Z_", core.value(), (made - 1) % 10);
  }
}
