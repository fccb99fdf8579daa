/** Promises 4 and 7: which objects exist, what holds them, and what is collected. */
public final class HoldsTest {
  private static final Check check = new Check();

  public static void main(String[] args) {
    goAtOnce();
    refs();
    collected();
    callsHold();
    frames();
    errorsLetGo();
    counts();
    check.end();
  }

  private static void goAtOnce() {
    check.gives("alive(), [alive()], alive()", "0 [0] 1");
    check.gives("[1] == [alive()], alive()", "0 0");
    check.prints("x = [1]\nx = [alive(), alive()]\nprint(x, alive())", "[1, 1] 1\n");
    check.prints("x = [[[[]]]]\nprint(alive())\nx = x[0][0]\nprint(alive())\ndel x\nprint(alive())", "4\n2\n0\n");
    check.prints("d = {1: [], 2: {}}\nprint(alive())\nd[1] = 0\nprint(alive())\ndel d[2]\nprint(alive())", "3\n2\n1\n");
    check.prints("l = [[], [], []]\npop(l)\nprint(alive())\nl[0] = l[1]\nprint(alive())\ndel l[0]\nprint(alive())\ndel l[0]\nprint(alive())",
        "3\n2\n2\n1\n");
    check.prints("l = [[1]]\nx = l[0]\nl = None\nprint(x, alive(), refs(x))", "[1] 1 1\n");
    check.prints("x = [[]][0]\nprint(alive())", "1\n");
    check.prints("l = [1]\nfor i in [l, [2], [3]]:\n print(alive())\nprint(alive())", "4\n4\n4\n2\n");
    check.prints("for i in [1]:\n for j in [2]:\n  print(alive())\n  break\n print(alive())\nprint(alive())", "2\n1\n0\n");
    check.prints("x = [] or [1]\nprint(alive())\ny = [1] and 0\nprint(alive())", "1\n1\n");
    check.prints("x = [1]\nx += [alive()]\nprint(x, alive())", "[1, 1] 1\n");
    // A long chain goes as a whole.
    check.prints("x = None\nfor i in range(300):\n x = [x]\nprint(alive())\nx = 0\nprint(alive())", "300\n0\n");
  }

  private static void refs() {
    check.gives("refs([]), refs([[]][0]), refs({})", "0 0 0");
    check.prints("x = []\ny = x\nprint(refs(x))\nl = [x, x]\nd = {1: x}\nprint(refs(x), refs(l))\nl = [l[0]]\nprint(refs(x))",
        "2\n5 1\n4\n");
    check.prints("x = []\nprint([x, refs(x)], refs(x))", "[<list>, 1] 2\n");
    check.prints("def f(a):\n b = a\n return refs(a)\nx = []\nprint(f(x), refs(x), f([]))", "3 1 2\n");
    check.prints(Check.lines("class A:", " x = 1", "class B(A):", " pass", "print(refs(A), refs(B))", "b = [A(), A(), B()]",
        "print(refs(A), refs(B), refs(b[0]))", "a = b[0]", "a.me = a", "A.z = a", "print(refs(a))"), "2 1\n4 2 1\n4\n");
    check.prints(Check.lines("class A:", " def f(o):", "  return [refs(o), refs(A.f)]", "a = A()", "print(refs(A.f), a.f())",
        "m = a.f", "print(refs(m), refs(a), refs(A.f), a.f())"), "1 [3, 2]\n1 2 2 [4, 3]\n");
    check.prints("l = [5]\nfor i in l:\n print(refs(l))", "1\n");
    check.prints("def f():\n def g():\n  pass\n return g\ng = f()\nh = f()\nprint(refs(f), refs(g))", "1 2\n");
  }

  private static void collected() {
    check.prints("l = []\npush(l, l)\nl = None\nprint(alive(), collect(), alive(), collect())", "1 1 0 0\n");
    check.prints("a = {}\nb = [a]\na[1] = b\nc = [a]\na = 0\nb = 0\nprint(alive(), collect(), alive())\nc = 0\nprint(alive(), collect(), alive())", "3 0 3\n2 2 0\n");
    // What goes by collect lets go what can still be reached, and no more.
    check.prints("x = []\nl = [x]\npush(l, l)\nprint(refs(x))\nl = 0\nprint(refs(x), collect(), refs(x))\nx = 0\nprint(alive())",
        "2\n2 1 1\n0\n");
    check.prints("l = []\npush(l, l)\nprint([[]], collect(), l)", "[<list>] 0 [<list>]\n");
    check.prints("class A:\n pass\na = A()\na.me = a\nA.a = a\na = 0\nprint(alive(), collect())\nA = 0\nprint(alive(), collect())",
        "2 0\n2 2\n");
    check.prints("def mk():\n def f():\n  return f\n return f\ng = mk()\nprint(alive(), collect(), g() is g)\ng = 0\nprint(alive(), collect(), alive())",
        "3 0 1\n3 2 1\n");
    check.prints("def f(l):\n push(l, l)\n m = [l]\n return collect()\nprint(f([]), alive(), collect(), alive())", "0 2 1 1\n");
    check.prints("class A:\n def init(o):\n  o.o = o\n  o = 0\n  print(collect(), alive())\nA()\nprint(alive(), collect())",
        "0 4\n3 1\n");
    check.prints("class A:\n x = [1]\n y = print(collect(), alive())\nprint(alive())", "0 1\n2\n");
  }

  private static void callsHold() {
    // The frame, and the function that is called and held by nothing else.
    check.prints("def mk():\n def f():\n  return alive()\n return f\nprint(mk()())", "4\n");
    check.prints("def f():\n global f\n del f\n return alive()\nprint(f(), alive())", "2 0\n");
    check.prints("def f(x):\n x = 0\n return alive()\nprint(f([1]))", "2\n");
    check.prints("def f(x):\n return alive()\nprint(f([1]))", "3\n");
    check.prints("class A:\n def f(o):\n  o = 0\n  return alive()\nprint(A().f(), alive())", "5 2\n");
    check.prints("class A:\n def init(o):\n  o = 0\n  del A.init\n  print(alive())\nx = A()\nprint(alive())", "3\n2\n");
    check.prints("class A:\n def init(o):\n  global A\n  del A\n  print(alive())\nA()\nprint(alive())", "4\n0\n");
    check.prints("def f(x):\n return x\nprint(f([1]) is f([1]), alive())", "0 1\n");
    check.prints("class A:\n x = [1]\n y = alive()\n x = alive()\n z = alive()\nprint(A.y, A.x, A.z, alive())", "1 1 0 1\n");
    check.prints("l = []\nclass A:\n x = l\n y = refs(l)\nprint(A.y, refs(l))", "1 2\n");
  }

  private static void frames() {
    SnakeCore core = new SnakeCore();
    Check.run(core, "def f(x):\n def g():\n  return x\n return g\na = f([1])\nb = f(2)\nf(3)");
    check.due("frames", core.count(7), 3);
    check.due("functions", core.count(3), 4);
    check.due("lists", core.count(1), 1);
    check.due("all", core.count(0), 8);
    // Each frame has g by name: the two only hold each other when a goes.
    Check.run(core, "a = 0\nb = 0\nprint(collect())");
    check.due("collected", Check.out(core), "7\n");
    Check.run(core, "def f(x):\n return lambda_(x)\ndef lambda_(x):\n return [x]\na = f(1)");
    check.due("no frame stays", core.count(7), 0);
    check.due("functions", core.count(3), 2);
    check.prints("def f(n):\n if n:\n  def g():\n   return n\n  return f(n - 1)\n return alive()\nprint(f(3), alive(), collect())",
        "8 7 6\n");
  }

  private static void errorsLetGo() {
    check.prints("try:\n x = [[1], [2], [3][5]]\nexcept:\n print(alive())", "0\n");
    check.prints("def f(x):\n y = [x]\n return y[1]\ntry:\n [f([1])]\nexcept:\n print(alive())", "1\n");
    check.prints("try:\n for i in [[1]]:\n  for j in [[2]]:\n   zz\nexcept:\n print(alive(), i, j)", "2 [1] [2]\n");
    check.prints("class A:\n def init(o):\n  zz\ntry:\n A()\nexcept:\n print(alive())", "2\n");
    check.prints("try:\n class A:\n  x = [1]\n  y = zz\nexcept:\n print(alive())", "0\n");
    check.prints("class A:\n pass\ntry:\n A([1])\nexcept e:\n print(e, alive())", "2 1\n");
    check.prints("def f():\n pass\ntry:\n f([1])\nexcept e:\n print(e, alive())", "2 1\n");
    SnakeCore core = new SnakeCore();
    check.due("an error", Check.run(core, "def f(x):\n for i in [x]:\n  [1][2]\nf([])"), 3);
    check.due("the function is left", core.count(0), 1);
    Check.feed(core, "def g(x):\n while 1:\n  pass\ng([[]])");
    check.due("no fuel", core.run(30), 100);
    check.due("both functions are left", core.count(0), 2);
  }

  private static void counts() {
    SnakeCore core = new SnakeCore();
    Check.run(core, Check.lines("class A:", " def f(o):", "  return o", "a = A()", "b = A()", "m = a.f", "l = [1]", "d = {1: l}",
        "n = None", "i = 5"));
    int[] want = {7, 1, 1, 1, 1, 2, 1, 0, 8, 9};
    for (int what = 0; what < want.length; what++) check.due("count " + what, core.count(what), want[what]);
    for (int bad : new int[] {-1, 10, 11, Integer.MAX_VALUE, Integer.MIN_VALUE}) check.due("count " + bad, core.count(bad), -1);
    Check.run(core, "del a\ndel n\nb = m");
    check.due("names", core.count(8), 6);
    check.due("instances", core.count(5), 1);
    check.due("methods", core.count(6), 1);
    check.due("steps", core.count(9), 3);
    Check.run(core, "x = (");
    check.due("steps of a fault", core.count(9), 0);
    check.due("objects stay", core.count(0), 6);
  }
}
