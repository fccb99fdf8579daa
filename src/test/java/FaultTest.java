/** Promises 4 and 5: which texts have a fault, and in which line. */
public final class FaultTest {
  private static final Check check = new Check();

  public static void main(String[] args) {
    lines();
    tokens();
    indents();
    targets();
    places();
    expressions();
    limits();
    nothingIsDone();
    check.end();
  }

  private static void fits(String text) {
    SnakeCore core = new SnakeCore();
    int answer = Check.run(core, text);
    check.due("is no fault: " + text, answer == -1 ? -1 : 0, 0);
  }

  private static void lines() {
    check.prints("", "");
    check.prints("\n\n   \n# only a comment \u00ff\t\n", "");
    check.prints("print(1) # and 'this\nprint('#')#", "1\n#\n");
    check.prints("   # deeper\nif 1:\n # less\n\n  print(1)\n# none\n  print(2)", "1\n2\n");
    check.hasFault("\n\nx = )\n", 3);
    check.hasFault("x = 1\n\n#\ny = = 2\nz = )", 4);
  }

  private static void tokens() {
    fits("abcdefghijkl = 1");
    check.hasFault("abcdefghijklm = 1", 1);
    fits("_a9 = 1");
    check.hasFault("9a = 1", 1);
    check.gives("9223372036854775807", "9223372036854775807");
    check.gives("0009", "9");
    check.hasFault("x = 9223372036854775808", 1);
    check.hasFault("x = 99999999999999999999", 1);
    check.gives("'123456789012345'", "123456789012345");
    check.gives("''", "");
    check.gives("' ~\"#'", " ~\"#");
    check.hasFault("x = '1234567890123456'", 1);
    check.hasFault("x = 'abc", 1);
    check.hasFault("x = 'a\tb'", 1);
    check.hasFault("x = '\u007f'", 1);
    check.hasFault("x = 'a''b'", 1);
    check.hasFault("x =\t1", 1);
    check.hasFault("x = 1\r\ny = 2", 1);
    check.hasFault("x = 1 \u0000", 1);
    check.hasFault("x = \"a\"", 1);
    check.hasFault("x = 1 / 2", 1);
    check.hasFault("x = 1 ! 2", 1);
    check.hasFault("x //= 2", 1);
    check.hasFault("x %= 2", 1);
    check.hasFault("x = 1;", 1);
  }

  private static void indents() {
    check.hasFault(" x = 1", 1);
    check.hasFault("if 1:", 1);
    check.hasFault("if 1:\n\n# nothing\n", 1);
    check.hasFault("if 1:\nx = 1", 2);
    check.hasFault("x = 1\n y = 2", 2);
    check.hasFault("if 1:\n  x = 1\n   y = 1", 3);
    check.hasFault("if 1:\n  x = 1\n y = 1", 3);
    check.hasFault("if 1:\n if 1:\n   x = 1\n  y = 1", 4);
    check.hasFault("if 1: x = 1", 1);
    fits("if 1:\n if 1:\n   x = 1\n y = 1\nz = 1");
    check.hasFault("if 1:\n x = 1\n else:\n  y = 1", 3);
    check.hasFault("if 1:\n  x = 1\n else:\n  y = 1", 3);
    fits("while 0:\n x = 1\nfor i in []:\n                  y = 1");
  }

  private static void targets() {
    for (String good : new String[] {"x", "x.y", "x[0]", "f().y", "f()[1]", "(x)[0]", "(x).y", "[1][0]", "'a'.b",
        "5 . b", "None.x", "x.y.z", "x[0][1]", "{}[1]"}) {
      fits(good + " = 1");
      fits(good + " += 1");
      fits(good + " -= 1");
      fits(good + " *= 1");
      fits("del " + good);
    }
    for (String bad : new String[] {"(x)", "(x.y)", "f()", "x.y()", "5", "'a'", "None", "True", "[x]", "-x", "-x.y",
        "not x.y", "x + y.z", "1 + x[0]", "x == y.z", "x and y.z", "x or y[0]", "{}", ""}) {
      check.hasFault("pass\n" + bad + " = 1", 2);
      check.hasFault("pass\n" + bad + " += 1", 2);
      check.hasFault("pass\ndel " + bad, 2);
    }
    check.hasFault("x = y = 1", 1);
    check.hasFault("x =", 1);
    check.hasFault("x +=", 1);
    check.hasFault("del x, y", 1);
    check.hasFault("x, y = 1", 1);
    check.hasFault("x += 1 = 2", 1);
  }

  private static void places() {
    check.hasFault("break", 1);
    check.hasFault("continue", 1);
    check.hasFault("return", 1);
    check.hasFault("global x", 1);
    check.hasFault("while 1:\n def f():\n  break", 3);
    check.hasFault("if 1:\n x = 1\n continue", 3);
    check.hasFault("while 0:\n pass\nbreak", 3);
    fits("def f():\n while 1:\n  if 1:\n   try:\n    break\n   except:\n    continue");
    check.hasFault("while 1:\n class A:\n  break", 3);
    check.hasFault("def f():\n class A:\n  return", 3);
    check.hasFault("def f():\n class A:\n  global x", 3);
    check.hasFault("class A:\n x += 1", 2);
    check.hasFault("class A:\n x.y = 1", 2);
    check.hasFault("class A:\n x", 2);
    check.hasFault("class A:\n class B:\n  pass", 2);
    check.hasFault("class A:\n if 1:\n  pass", 2);
    check.hasFault("class A():\n pass", 1);
    check.hasFault("class A(B, C):\n pass", 1);
    check.hasFault("class A(B.c):\n pass", 1);
    check.hasFault("class A:", 1);
    check.hasFault("try:\n pass", 2);
    check.hasFault("try:\n pass\n\n#\n", 2);
    check.hasFault("try:\n pass\nx = 1", 3);
    check.hasFault("if 1:\n try:\n  pass\nexcept:\n pass", 4);
    check.hasFault("try:\n pass\nexcept x y:\n pass", 3);
    check.hasFault("try:\n pass\nexcept x.y:\n pass", 3);
    check.hasFault("try:\n pass\nexcept:\n pass\nexcept:\n pass", 5);
    check.hasFault("else:\n pass", 1);
    check.hasFault("elif 1:\n pass", 1);
    check.hasFault("except:\n pass", 1);
    check.hasFault("if 1:\n pass\nelse:\n pass\nelse:\n pass", 5);
    check.hasFault("if 1:\n pass\nelse:\n pass\nelif 1:\n pass", 5);
    check.hasFault("while 1:\n pass\nelse:\n pass", 3);
    check.hasFault("if 1:\n pass\npass\nelse:\n pass", 4);
    check.hasFault("for x.y in []:\n pass", 1);
    check.hasFault("for x, y in []:\n pass", 1);
    check.hasFault("def f:\n pass", 1);
    check.hasFault("def f(a, a):\n pass", 1);
    check.hasFault("def f(a,):\n pass", 1);
    check.hasFault("def f(a=1):\n pass", 1);
    check.hasFault("def if():\n pass", 1);
    check.hasFault("def f(a):\n x = 1\n global a", 3);
    fits("def f(a):\n def g():\n  global a\n  a = 1");
    fits("def f():\n x = 1\n global x, y, x");
    check.hasFault("def f():\n global x,", 2);
    check.hasFault("raise", 1);
    check.hasFault("pass 1", 1);
  }

  private static void expressions() {
    for (String bad : new String[] {"a < b < c", "a == b != c", "a not in b", "a is not b", "1 +", "+ 1", "* 2", "1 2",
        "f(1,)", "[1,]", "{1:2,}", "{1}", "{1:}", "f(,)", "x.", "x.1", "x[]", "x[1:2]", "x[1,2]", "()", "(1, 2)",
        "a = 1)", "(1", "[1", "{1: 2", "f(1", "1 and", "not", "- not a", "a == not b", "x.if", "if",
        "1 ** 2", "a.b.", "in a", "a in", "if else"}) {
      check.hasFault("pass\nprint(" + bad + ")\n", 2);
      check.hasFault("pass\nx = " + bad, 2);
    }
    check.gives("1and 2", "2");
    check.gives("0or'a'in['a']", "1");
    check.gives("not not 1 == 1", "1");
    check.gives("- - 1", "1");
    check.gives("1 - -1", "2");
    check.prints("print (1)", "1\n");
  }

  private static String times(String s, int n) {
    return s.repeat(n);
  }

  private static void limits() {
    for (String[] pair : new String[][] {{"(", ")"}, {"[", "]"}, {"not ", ""}, {"-", ""}, {"{1:", "}"}, {"f(", ")"},
        {"x[", "]"}}) {
      fits("try:\n x = " + times(pair[0], 12) + "1" + times(pair[1], 12) + "\nexcept:\n pass");
      check.hasFault("pass\nx = " + times(pair[0], 13) + "1" + times(pair[1], 13), 2);
    }
    fits("x = " + times("[", 12) + times("]", 12));
    check.hasFault("x = " + times("[", 13) + times("]", 13), 1);
    check.hasFault("x = " + times("(", 12) + "[]" + times(")", 12), 1);
    check.hasFault("x = " + times("(", 12) + "{}" + times(")", 12), 1);
    check.hasFault("x = " + times("(", 12) + "f()" + times(")", 12), 1);
    check.hasFault("x = " + times("(", 12) + "not 1" + times(")", 12), 1);
    fits("x = " + times("(", 12) + "1 - 1 - 1" + times(")", 12));
    fits("x = [(1)" + times("+(1)", 200) + "]");
    fits("f()()()()()()()()()()()()()()()()()");
    check.prints("print(len([" + times("1,", 39) + "1]))", "40\n");
    check.hasFault("x = [" + times("1,", 40) + "1]", 1);
    check.prints("print(len({" + pairs(20) + "}))", "20\n");
    check.hasFault("x = {" + pairs(21) + "}", 1);
    check.prints("print(1,2,3,4,5,6,7,8)", "1 2 3 4 5 6 7 8\n");
    check.hasFault("print(1,2,3,4,5,6,7,8,9)", 1);
    fits("def f(a,b,c,d,e,f,g,h):\n pass");
    check.hasFault("def f(a,b,c,d,e,f,g,h,i):\n pass", 1);
    fits(blocks("if 1:", 10));
    check.hasFault(blocks("if 1:", 11), 12);
    check.hasFault(blocks("def f():", 11), 12);
    check.hasFault(blocks("if 1:", 10) + " ".repeat(10) + "if 1:\n", 12);
  }

  private static String pairs(int n) {
    StringBuilder s = new StringBuilder();
    for (int i = 0; i < n; i++) s.append(i > 0 ? "," : "").append(i).append(":1");
    return s.toString();
  }

  private static String blocks(String head, int deep) {
    StringBuilder s = new StringBuilder();
    for (int i = 0; i < deep; i++) s.append(" ".repeat(i)).append(head).append('\n');
    return s.append(" ".repeat(deep)).append("pass\n").toString();
  }

  private static void nothingIsDone() {
    SnakeCore core = new SnakeCore();
    Check.run(core, "a = [1]\nprint(1)\nx");
    check.due("line 3", core.line(), 3);
    check.due("a fault", Check.run(core, "print(2)\na = 1\ndef f():\n pass\nx = ("), -1);
    check.due("its line", core.line(), 5);
    check.due("out is empty", core.octet(-1), 0);
    check.due("no steps", core.count(9), 0);
    check.due("the list is there", core.count(1), 1);
    check.due("no function is", core.count(3), 0);
    check.due("the tape is empty", core.end(1), -1);
    Check.feed(core, "print(a)");
    check.due("fuel 0", core.run(0), -2);
    check.due("fuel 20001", core.run(20001), -2);
    check.due("fuel -1", core.run(-1), -2);
    check.due("fuel min", core.run(Integer.MIN_VALUE), -2);
    check.due("the line stays", core.line(), 5);
    check.due("the tape stays", core.end(8), 8);
    check.due("fuel 1", core.run(1), 0);
    check.due("out", Check.out(core), "[1]\n");
    check.due("no line", core.line(), 0);
  }
}
