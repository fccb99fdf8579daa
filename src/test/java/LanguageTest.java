/** Promises 4, 5 and 6: what texts do, what they print, which error ends them and in which line. */
public final class LanguageTest {
  private static final Check check = new Check();

  public static void main(String[] args) {
    numbers();
    strings();
    comparisons();
    lists();
    dicts();
    texts();
    builtIns();
    targets();
    order();
    flow();
    scopes();
    calls();
    classes();
    errors();
    steps();
    octets();
    check.end();
  }

  private static void numbers() {
    String max = "9223372036854775807";
    String min = "(-" + max + " - 1)";
    check.gives("7 // 2, -7 // 2, 7 // -2, -7 // -2", "3 -4 -4 3");
    check.gives("7 % 2, -7 % 2, 7 % -2, -7 % -2", "1 1 -1 -1");
    check.gives("1 + 2 * 3 - 4 // 2", "5");
    check.gives("(1 + 2) * 3", "9");
    check.gives("10 - 3 - 2, 100 // 7 // 2, -2 * 3", "5 7 -6");
    check.gives(min, "-9223372036854775808");
    check.gives(min + " % -1", "0");
    check.gives(max + " * -1", "-" + max);
    check.errs(max + " + 1", 6);
    check.errs("-" + max + " - 2", 6);
    check.errs("0 - " + min, 6);
    check.errs("-" + min, 6);
    check.errs(min + " // -1", 6);
    check.errs(min + " * -1", 6);
    check.errs("-1 * " + min, 6);
    check.errs("3037000500 * 3037000500", 6);
    check.gives("3037000499 * 3037000499", "9223372030926249001");
    check.errs("1 // 0", 5);
    check.errs("1 % 0", 5);
    check.errs("None // 0", 2);
    for (String sign : new String[] {"+", "-", "*", "//", "%", "<", "<=", ">", ">="}) {
      check.errs("1 " + sign + " 'a'", 2);
      check.errs("None " + sign + " None", 2);
      check.errs("[] " + sign + " 1", 2);
      check.errs("{} " + sign + " {}", 2);
    }
    for (String sign : new String[] {"-", "*", "//", "%"}) check.errs("'a' " + sign + " 'b'", 2);
    for (String sign : new String[] {"-", "*", "<", ">="}) check.errs("[1] " + sign + " [1]", 2);
    check.errs("-'a'", 2);
    check.errs("-[]", 2);
    check.gives("True + True, False", "2 0");
  }

  private static void strings() {
    check.gives("'ab' + 'cd', '' + '', 'abcdefg' + 'hijklmno'", "abcd  abcdefghijklmno");
    check.errs("'abcdefgh' + 'abcdefgh'", 8);
    check.gives("'abcdefghijklmno'[0], 'abcdefghijklmno'[6], 'abcdefghijklmno'[7]", "a g h");
    check.gives("'abcdefghijklmno'[14], 'abcdefghijklmno'[-1], 'abcdefghijklmno'[-15]", "o o a");
    check.errs("'abc'[3]", 3);
    check.errs("'abc'[-4]", 3);
    check.errs("''[0]", 3);
    check.errs("'abc'['a']", 2);
    check.errs("'abc'[None]", 2);
    check.gives("'a' < 'b', 'a' < 'aa', '' < 'a', 'b' < 'aa', 'a' < 'a'", "1 1 1 0 0");
    check.gives("'abcdefgh' < 'abcdefgi', 'abcdefg' < 'abcdefgh', 'abcdefgh' <= 'abcdefgh'", "1 1 1");
    check.gives("'z' > 'abcdefghijk', 'abcdefgha' >= 'abcdefghb', ' ' < '~'", "1 0 1");
    check.gives("'abcdefgh' == 'abcdefg' + 'h', 'abc'[1] == 'b', 'a' == 'a ', 'a' != 'b'", "1 1 0 1");
  }

  private static void comparisons() {
    check.gives("1 < 2, 2 < 2, 2 <= 2, 3 <= 2, 3 > 2, 2 > 2, 2 >= 2, 1 >= 2", "1 0 1 0 1 0 1 0");
    check.gives("-9223372036854775807 < 9223372036854775807", "1");
    check.gives("1 == 1, 1 == '1', None == None, None == 0, '' == 0, [] == [], {} == {}", "1 0 1 0 0 0 0");
    check.gives("1 is 1, 'a' is 'a', [] is []", "1 1 0");
    check.prints("l = [1]\nm = l\nprint(l == m, l is m, l != m, l == [1])", "1 1 0 0\n");
    check.gives("not 0, not 1, not '', not 'a', not [], not [0], not {}, not None", "1 0 1 0 1 0 1 1");
    check.prints("def f():\n pass\nclass A:\n pass\nprint(not f, not A, not A())", "0 0 0\n");
    check.gives("0 or 'a', 1 or x, '' and x, 1 and [], None or 0, 1 and 2 and 3, 0 or '' or 5", "a 1  [] 0 3 5");
    check.gives("1 or x and y, 0 and x or 2, not 0 and 1", "1 2 1");
    check.gives("1 in [1, 2], 3 in [1, 2], 'a' in ['a'], None in [None], [] in [[]], '1' in [1]", "1 0 1 1 0 0");
    check.gives("1 in {1: 2}, 2 in {1: 2}, 'a' in {'a': 1}, '1' in {1: 1}", "1 0 1 0");
    check.errs("None in {}", 2);
    check.errs("[] in {1: 1}", 2);
    check.errs("'a' in 'abc'", 2);
    check.errs("1 in 1", 2);
    check.errs("1 in None", 2);
  }

  private static void lists() {
    check.gives("[1, 2] + [3], [] + []", "[1, 2, 3] []");
    check.gives("[1, 2, 3][0], [1, 2, 3][-1], [1, 2, 3][-3]", "1 3 1");
    check.errs("[1][1]", 3);
    check.errs("[1][-2]", 3);
    check.errs("[][0]", 3);
    check.errs("[1]['a']", 2);
    check.errs("5[0]", 2);
    check.errs("None[0]", 2);
    check.prints("l = [1, 2, 3, 4]\ndel l[1]\nprint(l)\ndel l[-1]\nprint(l)\nl[-1] = 'x'\nl[0] = l\nprint(l)",
        "[1, 3, 4]\n[1, 3]\n[<list>, 'x']\n");
    check.does("l = [1]\ndel l[1]", 3, 2, "");
    check.does("l = [1]\nl[1] = 1", 3, 2, "");
    check.does("l = [1]\nl['a'] = 1", 2, 2, "");
    check.does("l = 'abc'\nl[0] = 'x'", 2, 2, "");
    check.does("l = 'abc'\ndel l[0]", 2, 2, "");
    check.prints("l = [1]\nm = l + []\npush(m, 2)\nprint(l, m, l + m)", "[1] [1, 2] [1, 1, 2]\n");
  }

  private static void dicts() {
    check.prints("d = {1: 2, 'a': 3, 1: 4}\nprint(d)\nd[5] = 6\nd['a'] = 7\nprint(d, d['a'], d[1], keys(d))",
        "{1: 4, 'a': 3}\n{1: 4, 'a': 7, 5: 6} 7 4 [1, 'a', 5]\n");
    check.prints("d = {1: 1, 2: 2, 3: 3}\ndel d[1]\nd[1] = 0\nprint(d, len(d), -1 in d, d[True])",
        "{2: 2, 3: 3, 1: 0} 3 0 0\n");
    check.errs("{1: 2}[2]", 4);
    check.errs("{1: 2}['1']", 4);
    check.errs("{1: 2}[None]", 2);
    check.errs("{1: 2}[[]]", 2);
    check.does("d = {}\ndel d[1]", 4, 2, "");
    check.does("d = {}\ndel d[None]", 2, 2, "");
    check.does("d = {}\nd[None] = 1", 2, 2, "");
    check.does("d = {}\nd[1] += 1", 4, 2, "");
    check.does("d = {None: print(1), 1: print(2)}", 2, 1, "1\n2\n");
  }

  private static void texts() {
    check.prints("print()\nprint('')\nprint(1, '', None)", "\n\n1  None\n");
    check.gives("[1, 'a', None, [2], {}, -5, '']", "[1, 'a', None, <list>, <dict>, -5, '']");
    check.gives("{1: 2, 'a': {}, -3: 'b', '': []}", "{1: 2, 'a': <dict>, -3: 'b', '': <list>}");
    check.gives("[], {}", "[] {}");
    check.prints(Check.lines("def f():", " pass", "class C:", " def m(x):", "  pass", "c = C()", "print(f, C, c, c.m, C.m)",
        "print([f, C, c, c.m, C.m])", "g = f", "D = C", "print(g, D, D())"),
        "<function f> <class C> <instance C> <method m> <function m>\n"
        + "[<function>, <class>, <instance>, <method>, <function>]\n<function f> <class C> <instance C>\n");
  }

  private static void builtIns() {
    check.gives("len('abc'), len(''), len([1, 2]), len({1: 1})", "3 0 2 1");
    check.errs("len(1)", 2);
    check.errs("len(None)", 2);
    check.gives("range(3), range(0), range(-1), range(2, 5), range(5, 2), range(-2, 1)",
        "[0, 1, 2] [] [] [2, 3, 4] [] [-2, -1, 0]");
    check.gives("len(range(300)), range(9223372036854775806, 9223372036854775807)", "300 [9223372036854775806]");
    check.gives("range(9223372036854775807, -9223372036854775807)", "[]");
    check.errs("range(301)", 8);
    check.errs("range(-9223372036854775807, 9223372036854775807)", 8);
    check.errs("range('a')", 2);
    check.errs("range(1, None)", 2);
    check.prints("l = []\nprint(push(l, 1), push(l, l), l, pop(l) is l, pop(l), l)", "None None [] 1 1 []\n");
    check.errs("pop([])", 3);
    check.errs("pop({})", 2);
    check.errs("push({}, 1)", 2);
    check.errs("keys([])", 2);
    check.gives("keys({}), keys({2: 1, 'a': 1})", "[] [2, 'a']");
    check.gives("text(5) + 'a', text('b'), text(-12) == '-12', len(text(123456789012345))", "5a b 1 15");
    check.gives("text(-12345678901234), text(0)", "-12345678901234 0");
    check.errs("text(1234567890123456)", 8);
    check.errs("text(-123456789012345)", 8);
    check.errs("text(None)", 2);
    check.errs("text([])", 2);
    check.errs("refs(1)", 2);
    check.errs("refs('a')", 2);
    check.errs("refs(None)", 2);
    for (String bad : new String[] {"len()", "len('', '')", "range()", "range(1, 2, 3)", "push([])", "push([], 1, 2)",
        "pop()", "pop([1], 0)", "keys()", "keys({}, 1)", "text()", "text(1, 2)", "refs()", "refs([], [])", "alive(1)",
        "collect(1)"}) {
      check.errs(bad, 2);
    }
    check.errs("print", 1);
    check.errs("(print)(1)", 1);
    check.errs("len(x)", 1);
    check.does("print(1)(2)", 2, 1, "1\n");
    check.prints("def f():\n print = 3\n return print\nprint(f())", "3\n");
    check.prints("def f():\n print(1)\n print = 3\n return print\nprint(f())", "1\n3\n");
    check.does("len = 3\nx = len([])", 2, 2, "");
    check.prints("len = 3\nprint(len)\ndel len\nprint(len([]))", "3\n0\n");
    check.prints("def g(x):\n global print\n print = x\n return 7\nprint(g(5))\ny = print", "7\n");
    check.prints("def len(x):\n return 'mine'\nprint(len([]))", "mine\n");
  }

  private static void targets() {
    check.prints("x = 1\nx += 2\nx *= 5\nx -= 1\nprint(x)", "14\n");
    check.prints("s = 'a'\ns += 'b'\nl = [1]\nm = l\nl += [2]\nprint(s, l, m)", "ab [1, 2] [1]\n");
    check.does("x += 1", 1, 1, "");
    check.does("x = 1\nx += None", 2, 2, "");
    check.prints("l = [1, 2]\nl[-1] += 5\nl[0] *= -3\nprint(l)", "[-3, 7]\n");
    // The end as it is when it is bound: the item was found at another place.
    check.prints("l = [1, 2, 3]\nl[-1] += pop(l)\nprint(l)", "[1, 6]\n");
    check.does("l = [1]\nl[-1] += pop(l)", 3, 2, "");
    check.prints("d = {1: 5}\ndef f():\n del d[1]\n d[2] = 0\n return 1\nd[1] += f()\nprint(d)", "{2: 0, 1: 6}\n");
    check.prints("def f(x):\n print(x)\n return x\nl = [0, 0, 0]\nl[f(1)] = f(2)\nl[f(0)] += f(3)\nprint(l)",
        "2\n1\n0\n3\n[3, 2, 0]\n");
    check.prints(Check.lines("class A:", " n = 1", "x = A()", "def g():", " print('x')", " return x", "g().n += 4",
        "print(x.n, A.n)", "A.n *= 7", "del x.n", "print(x.n)"), "x\n5 1\n7\n");
    check.does("x = 1\ndel x\nx", 1, 3, "");
    check.does("del x", 1, 1, "");
    check.does("x = 1\nx.y = 2", 2, 2, "");
    check.does("x = [1]\nx.y += 2", 2, 2, "");
    check.does("x = [1]\ndel x.y", 2, 2, "");
    check.does("def f():\n pass\nf.x = 1", 2, 3, "");
    check.does("x = None\ndel x[0]", 2, 2, "");
    check.does("x = None\nx[0] = 1", 2, 2, "");
  }

  private static void order() {
    String f = "def f(x):\n print(x)\n return x\n";
    check.prints(f + "x = f(1) + f(2) * f(3)", "1\n2\n3\n");
    check.prints(f + "x = {f(1): f(2), f(3): f(4)}", "1\n2\n3\n4\n");
    check.prints(f + "x = [f(1), f(2)][f(0)]", "1\n2\n0\n");
    check.prints(f + "{}[f(1)] = f(2)", "2\n1\n");
    check.does(f + "5(f(1), f(2))", 2, 4, "1\n2\n");
    check.does(f + "zz(f(1))", 1, 4, "");
    check.does(f + "f(f(1), f(2))", 2, 4, "1\n2\n");
    check.does(f + "zz[f(1)] = f(2)", 1, 4, "2\n");
    check.does(f + "zz[f(1)] += f(2)", 1, 4, "");
    check.does(f + "[][f(1)] += f(2)", 3, 4, "1\n");
  }

  private static void flow() {
    check.prints("if 0:\n print(1)\nelif '':\n print(2)\nelif [0]:\n print(3)\nelif 1:\n print(4)\nelse:\n print(5)", "3\n");
    check.prints("if None:\n print(1)\nelse:\n print(5)", "5\n");
    check.prints("x = 3\nwhile x:\n x -= 1\n if x == 1:\n  continue\n print(x)", "2\n0\n");
    check.prints("while 1:\n while 1:\n  break\n print(1)\n break", "1\n");
    check.prints("l = [1, 2]\nfor i in l:\n if len(l) < 5:\n  push(l, i * 10)\n print(i)\nprint(i)",
        "1\n2\n10\n20\n100\n100\n");
    check.prints("l = [1, 2, 3]\nfor i in l:\n print(i)\n pop(l)", "1\n2\n");
    check.prints("l = [1, 2]\nfor i in l:\n l = []\n print(i)", "1\n2\n");
    check.prints("for i in []:\n print(1)\nprint(2)", "2\n");
    check.does("for i in 5:\n pass", 2, 1, "");
    check.does("for i in 'ab':\n pass", 2, 1, "");
    check.does("for i in {}:\n pass", 2, 1, "");
    check.does("for i in []:\n pass\nprint(i)", 1, 3, "");
    check.prints("try:\n raise 10\nexcept e:\n print(e)\nprint(e)", "10\n10\n");
    check.prints("try:\n print(1)\nexcept:\n print(2)\nprint(3)", "1\n3\n");
    check.prints("try:\n try:\n  raise 77\n except a:\n  raise a + 1\nexcept b:\n print(a, b)", "77 78\n");
    check.does("try:\n x = 1 // 0\nexcept e:\n raise e + 10", 15, 4, "");
    check.prints("for i in [1, 2, 3]:\n try:\n  if i == 2:\n   break\n  continue\n except:\n  print(i)\ntry:\n raise 50\nexcept e:\n print(i, e)",
        "2 50\n");
    check.prints("def f():\n for i in [1, 2]:\n  try:\n   return i\n  except:\n   pass\nprint(f())\ntry:\n raise 20\nexcept e:\n print(e)",
        "1\n20\n");
    check.prints("def f(n):\n if n == 0:\n  raise 33\n try:\n  f(n - 1)\n except e:\n  print(n, e)\n  raise e + 1\ntry:\n f(3)\nexcept e:\n print(e)",
        "1 33\n2 34\n3 35\n36\n");
    check.prints("pass\nif 1:\n pass", "");
  }

  private static void scopes() {
    check.prints("x = 1\ndef f():\n x = 2\n return x\nprint(f(), x)", "2 1\n");
    check.prints("x = 1\ndef f():\n global x\n x = 2\nf()\nprint(x)", "2\n");
    check.prints("def f():\n y = 2\n x = 3\n global y, z\n z = 5\nf()\nprint(y, z)", "2 5\n");
    check.does("x = 1\ndef f():\n print(x)\n x = 2\nf()", 1, 3, "");
    check.does("x = 1\ndef f():\n if 0:\n  del x\n print(x)\nf()", 1, 5, "");
    check.does("x = 1\ndef f():\n for x in []:\n  pass\n print(x)\nf()", 1, 5, "");
    check.does("x = 1\ndef f():\n try:\n  pass\n except x:\n  pass\n print(x)\nf()", 1, 7, "");
    check.does("x = 1\ndef f():\n if 0:\n  def x():\n   pass\n print(x)\nf()", 1, 6, "");
    check.does("x = 1\ndef f():\n if 0:\n  class x:\n   pass\n print(x)\nf()", 1, 6, "");
    check.does("x = 1\ndef f():\n print(x)\n x += 2\nf()", 1, 3, "");
    check.prints("x = 1\ndef f():\n def g():\n  x = 2\n class A:\n  x = 3\n return x\nprint(f())", "1\n");
    check.prints("def f(a):\n def g(b):\n  def h(c):\n   return [a, b, c]\n  return h\n return g\nprint(f(1)(2)(3))", "[1, 2, 3]\n");
    check.prints("def f():\n def g():\n  return x\n x = 5\n return g\nprint(f()())", "5\n");
    check.does("x = 9\ndef f():\n def g():\n  return x\n g()\n x = 5\nf()", 1, 4, "");
    // What f says of x is not said of g: the next function around with a local x is e.
    check.prints("x = 'glob'\ndef e():\n x = 'e'\n def f():\n  global x\n  def g():\n   return x\n  return [x, g()]\n return f()\nprint(e())",
        "['glob', 'e']\n");
    check.prints("n = 1\nclass A:\n n = 2\n m = n\n def f(x):\n  return n\nprint(A.m, A().f())", "1 1\n");
    check.prints("def f(n):\n class A:\n  m = n\n  def g(x):\n   return n\n return A\nprint(f(7).m, f(8)().g())", "7 8\n");
    check.prints("def f():\n print(len('ab'))\n def len(x):\n  return 9\n print(len('ab'))\nf()", "2\n9\n");
    check.prints("def f(x):\n try:\n  del x\n  print(x)\n except e:\n  print(e)\nf(1)", "1\n");
  }

  private static void calls() {
    check.gives("0", "0");
    check.prints("def f():\n return\ndef g():\n pass\nprint(f(), g())", "None None\n");
    check.prints("def f(a, b):\n return a - b\nprint(f(5, 3))", "2\n");
    check.does("def f(a):\n pass\nf()", 2, 3, "");
    check.does("def f(a):\n pass\nf(1, 2)", 2, 3, "");
    check.does("x = 5\nx()", 2, 2, "");
    check.does("x = 'print'\nx()", 2, 2, "");
    check.does("x = []\nx()", 2, 2, "");
    check.does("None()", 2, 1, "");
    String deep = "def f(n):\n if n == 1:\n  return 0\n return f(n - 1) + 1\n";
    check.prints(deep + "print(f(30))", "29\n");
    check.does(deep + "print(f(31))", 7, 4, "");
    check.prints(deep + "try:\n f(31)\nexcept e:\n print(e, alive())\nprint(f(30))", "7 1\n29\n");
    check.does(deep + "def g(n):\n return f(n)\nprint(g(29))\ng(30)", 7, 4, "28\n");
  }

  private static void classes() {
    check.prints(Check.lines("class A:", " x = 1", " def init(o, v):", "  o.v = v", "  return 99", " def get(o, k):",
        "  return o.v + k", "class B(A):", " x = 2", "class C(B):", " def get(o, k):", "  return B.get(o, k) * 10",
        "c = C(3)", "print(c.v, c.x, C.x, A.x, c.get(4), c)", "m = c.get", "print(m(1), m == c.get)",
        "c.get = A.get", "print(c.get, c.get(c, 1))", "B.x = 7", "print(c.x)", "del B.x", "print(c.x)"),
        "3 2 2 1 70 <instance C>\n40 0\n<function get> 4\n7\n1\n");
    check.does("class A:\n pass\nA(1)", 2, 3, "");
    check.does("class A:\n def init(o):\n  pass\nA(1)", 2, 4, "");
    check.does("class A:\n def init():\n  pass\nA()", 2, 4, "");
    check.prints("class A:\n init = 5\nprint(A(), A().init)", "<instance A> 5\n");
    check.does("class A:\n init = 5\nA(1)", 2, 3, "");
    check.does("class A:\n pass\nA.x", 9, 3, "");
    check.does("class A:\n pass\nA().x", 9, 3, "");
    check.does("class A:\n x = 1\na = A()\ndel a.x", 9, 4, "");
    check.does("class A:\n x = 1\nclass B(A):\n pass\ndel B.x", 9, 5, "");
    for (String other : new String[] {"1", "'a'", "None", "[]", "{}"}) check.errs(other + ".x", 2);
    check.does("def f():\n pass\nf.x", 2, 3, "");
    check.does("class A:\n def f(o):\n  pass\nA().f.x", 2, 4, "");
    check.does("x = 1\nclass A(x):\n y = print(2)", 2, 2, "2\n");
    check.does("class A(B):\n y = print(2)\n z = 1", 1, 1, "2\n");
    check.does("class A:\n y = 1\n x = zz\n z = 2", 1, 3, "");
    check.prints("class A:\n x = 1\n x = 2\n def x(o):\n  return 3\nprint(A().x())", "3\n");
    check.prints("class A:\n a = [1]\nx = A()\ny = A()\npush(x.a, 2)\nprint(y.a)", "[1, 2]\n");
    check.prints("class A:\n pass\nclass A(A):\n y = 4\nprint(A().y)", "4\n");
    check.prints("class A:\n def init(o):\n  o.f = A.g\n def g(o):\n  return o\na = A()\nprint(a.f(5), a.g() is a)", "5 1\n");
  }

  private static void errors() {
    check.does("x = 1\nraise 10", 10, 2, "");
    check.does("raise 99", 99, 1, "");
    for (String bad : new String[] {"9", "100", "-10", "None", "'a'", "[]", "1", "0"}) check.does("raise " + bad, 2, 1, "");
    check.does("def f():\n x = 1\n x // 0\nprint(1)\nf()", 5, 3, "1\n");
    check.does("def f():\n return 1\nx = [f(), f(), zz]", 1, 3, "");
    check.does("if 0:\n pass\nelif zz:\n pass", 1, 1, "");
    check.does("x = 2\nwhile [1, 2, 3][x]:\n x += 1", 3, 2, "");
    check.does("x = 1\n\nif x:\n # none\n zz", 1, 5, "");
    check.does("class A:\n def init(o):\n  zz\n\nA()", 1, 3, "");
    check.does("try:\n zz\nexcept e:\n\n  yy", 1, 5, "");
    check.does("def f():\n return 0\nfor i in [1]:\n f()\n\nzz", 1, 6, "");
    SnakeCore core = new SnakeCore();
    check.due("an error", Check.run(core, "a = 7\nzz"), 1);
    check.due("its line", core.line(), 2);
    check.due("none", Check.run(core, "b = a"), 0);
    check.due("no line", core.line(), 0);
    Check.feed(core, "b");
    check.due("b", core.value(), 7);
  }

  private static void fuel(String text, int fuel, int error, int line, int steps) {
    SnakeCore core = new SnakeCore();
    Check.feed(core, text);
    check.due("with fuel " + fuel + ":\n" + text, core.run(fuel), error);
    check.due("the line", core.line(), line);
    check.due("the steps", core.count(9), steps);
  }

  private static void steps() {
    fuel("x = 1\nx = 2\npass\n", 3, 0, 0, 3);
    fuel("x = 1\nx = 2\npass\n", 2, 100, 3, 2);
    fuel("x = 0\nwhile x < 2:\n x += 1\n", 6, 0, 0, 6);
    fuel("x = 0\nwhile x < 2:\n x += 1\n", 5, 100, 2, 5);
    fuel("for i in [1, 2]:\n pass\n", 5, 0, 0, 5);
    fuel("for i in [1, 2]:\n pass\n", 4, 100, 1, 4);
    fuel("for i in []:\n pass\n", 1, 0, 0, 1);
    fuel("while 1:\n continue\n", 20000, 100, 1, 20000);
    fuel("while 1:\n break\n", 9, 0, 0, 2);
    fuel("if 0:\n pass\nelif 0:\n pass\nelif 1:\n pass\n", 9, 0, 0, 2);
    fuel("def f():\n x = 1\n return x\nf()\n", 9, 0, 0, 4);
    fuel("def f():\n x = 1\n return x\nf()\n", 3, 100, 3, 3);
    fuel("class A:\n x = 1\n def f():\n  pass\n pass\n", 9, 0, 0, 4);
    fuel("try:\n raise 10\nexcept e:\n pass\n", 9, 0, 0, 3);
    fuel("def f():\n global x\n x = 1\nf()", 9, 0, 0, 4);
    fuel("try:\n while 1:\n  pass\nexcept:\n print(1)\n", 50, 100, 3, 50);
    fuel("zz", 5, 1, 1, 1);
    fuel("", 1, 0, 0, 0);
  }

  private static void octets() {
    SnakeCore core = new SnakeCore();
    Check.run(core, "print('az', 10)");
    int[] want = {'a', 'z', ' ', '1', '0', 10};
    check.due("how many", core.octet(-1), 6);
    for (int i = 0; i < want.length; i++) check.due("octet " + i, core.octet(i), want[i]);
    check.due("none behind", core.octet(6), -1);
    check.due("none at -2", core.octet(-2), -1);
    check.due("none at min", core.octet(Integer.MIN_VALUE), -1);
    check.due("none at max", core.octet(Integer.MAX_VALUE), -1);
    Check.run(core, "x = 1");
    check.due("of the latest text", core.octet(-1), 0);
    check.due("nothing is left", core.octet(0), -1);
    StringBuilder long1 = new StringBuilder("x = '12345678901234'\nfor i in range(266):\n print(x)\n");
    check.due("3990 bytes", Check.run(core, long1.toString()), 0);
    check.due("how many", core.octet(-1), 3990);
    check.due("10 more", Check.run(core, long1 + "print('123456789')"), 0);
    check.due("4000", core.octet(-1), 4000);
    check.due("the last", core.octet(3999), 10);
    check.due("none behind", core.octet(4000), -1);
    check.due("11 more", Check.run(core, long1 + "print('1234567890')"), 8);
    check.due("brings nothing", core.octet(-1), 3990);
    check.due("and on", Check.run(core, long1 + "try:\n print(x)\nexcept e:\n print(e)"), 0);
    check.due("how many", core.octet(-1), 3992);
    check.due("the error", core.octet(3990), '8');
  }
}
