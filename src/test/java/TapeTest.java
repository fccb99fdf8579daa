/** Promises 1, 2, 3, 8 and 9: a new object, feed, end, bind and value. */
public final class TapeTest {
  private static final long OTHER = 1L << 62;
  private static final long UNBOUND = (1L << 62) + 1;
  private static final Check check = new Check();

  public static void main(String[] args) {
    newObject();
    feeding();
    cutting();
    binding();
    values();
    check.end();
  }

  private static void newObject() {
    SnakeCore core = new SnakeCore();
    for (int what = 0; what <= 9; what++) check.due("new count " + what, core.count(what), 0);
    check.due("new line", core.line(), 0);
    check.due("new octet -1", core.octet(-1), 0);
    check.due("new octet 0", core.octet(0), -1);
    check.due("new end 0", core.end(0), 0);
    check.due("new end 1", core.end(1), -1);
    check.due("value of nothing", core.value(), UNBOUND);
    check.due("bind of nothing", core.bind(3), -1);
    check.due("the empty text", core.run(1), 0);
  }

  private static void feeding() {
    SnakeCore core = new SnakeCore();
    // 0x61 to 0x65 are a to e: the highest byte of each word comes first.
    check.due("feed", core.feed(0x6162633d, 0x31, 0, 0, 0), 20);
    check.due("end", core.end(4), 4);
    check.due("feed behind", core.feed(0x370a0000, 0, 0, 0, 0), 24);
    core.end(5);
    check.due("run abc=7", core.run(10), 0);
    Check.feed(core, "abc");
    check.due("abc", core.value(), 7);
    for (int i = 1; i <= 150; i++) check.due("feed " + i, core.feed(-1, -1, -1, -1, -1), 20 * i);
    check.due("feed 151", core.feed(0, 0, 0, 0, 0), -1);
    check.due("still 3000", core.end(3000), 3000);
    core.end(2981);
    check.due("feed to 3001", core.feed(0, 0, 0, 0, 0), -1);
    core.end(2980);
    check.due("feed to 3000", core.feed(0, 0, 0, 0, 0), 3000);
  }

  private static void cutting() {
    SnakeCore core = new SnakeCore();
    core.feed(0x61616161, 0x61616161, 0x61616161, 0x61616161, 0x61616161);
    check.due("end 21", core.end(21), -1);
    check.due("end -1", core.end(-1), -1);
    check.due("end min", core.end(Integer.MIN_VALUE), -1);
    check.due("end 20", core.end(20), 20);
    check.due("end 7", core.end(7), 7);
    check.due("end 8", core.end(8), -1);
    check.due("bind of 7 bytes", core.bind(5), 0);
    Check.feed(core, "aaaaaaa");
    check.due("its value", core.value(), 5);
  }

  private static long bound(SnakeCore core, String name, long value) {
    Check.feed(core, name);
    return core.bind(value);
  }

  private static long valueOf(SnakeCore core, String name) {
    Check.feed(core, name);
    return core.value();
  }

  private static void binding() {
    SnakeCore core = new SnakeCore();
    check.due("bind", bound(core, "abc", Long.MIN_VALUE), 0);
    check.due("names", core.count(8), 1);
    check.due("min", valueOf(core, "abc"), Long.MIN_VALUE);
    check.due("again", bound(core, "abc", 3), 0);
    check.due("names", core.count(8), 1);
    check.due("3", valueOf(core, "abc"), 3);
    check.due("12 bytes", bound(core, "_bcdefghij12", 1), 0);
    check.due("13 bytes", bound(core, "abcdefghij123", 1), -1);
    check.due("the tape is empty", core.end(1), -1);
    String[] none = {"1a", "a b", " a", "a ", "a+b", "if", "None", "True", "is", "a\n", "\u00e9", "'a'", "#a", "a#"};
    for (String name : none) {
      check.due("bind of " + name, bound(core, name, 1), -1);
      check.due("the tape is empty behind " + name, core.end(1), -1);
    }
    check.due("names", core.count(8), 2);
    check.due("a built-in name", bound(core, "print", 4), 0);
    check.due("is bound then", Check.run(core, "print(1)"), 2);
    Check.run(core, "l = [1, [2]]");
    check.due("lists", core.count(1), 2);
    bound(core, "l", 0);
    check.due("a bound name lets its object go", core.count(0), 0);
  }

  private static void values() {
    SnakeCore core = new SnakeCore();
    Check.run(core, Check.lines("i = 9223372036854775807", "n = None", "s = 'a'", "l = []", "d = 0", "del d",
        "t = True", "def f():", " loc = 1", "f()"));
    check.due("i", valueOf(core, "i"), Long.MAX_VALUE);
    check.due("t", valueOf(core, "t"), 1);
    check.due("n", valueOf(core, "n"), OTHER);
    check.due("s", valueOf(core, "s"), OTHER);
    check.due("l", valueOf(core, "l"), OTHER);
    check.due("f", valueOf(core, "f"), OTHER);
    check.due("d", valueOf(core, "d"), UNBOUND);
    check.due("loc", valueOf(core, "loc"), UNBOUND);
    check.due("print", valueOf(core, "print"), UNBOUND);
    check.due("if", valueOf(core, "if"), UNBOUND);
    check.due("i and a blank", valueOf(core, "i "), UNBOUND);
    check.due("the tape is empty", core.end(1), -1);
    check.due("13 bytes", valueOf(core, "iiiiiiiiiiiii"), UNBOUND);
  }
}
