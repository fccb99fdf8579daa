import java.util.Random;

/** No call throws or fails to end, whatever came before, behind the 512th call too. */
public final class WildTest {
  private static final Check check = new Check();
  private static final String[] PIECES = {"x", "y", "f", "A", "print", "len", "push", "(", ")", "[", "]", "{", "}", ",", ":",
      ".", "+", "-", "*", "//", "%", "=", "+=", "==", "<", ">=", "if", "elif", "else", "while", "for", "in", "def", "class",
      "return", "break", "continue", "pass", "del", "global", "try", "except", "raise", "and", "or", "not", "is", "None",
      "True", "1", "0", "9223372036854775807", "'a'", "''", "\n", "\n ", "\n  ", "\n   ", " ", "#", "\n", ":\n ", ":\n  "};

  public static void main(String[] args) {
    for (int seed = 0; seed < 300; seed++) calls(seed);
    longUse();
    check.end();
  }

  private static void calls(int seed) {
    Random random = new Random(seed);
    SnakeCore core = new SnakeCore();
    try {
      for (int i = 0; i < 700; i++) call(core, random);
      check.due("alive", core.count(0) >= 0 && core.count(0) <= 1500 ? 1 : 0, 1);
    } catch (RuntimeException | StackOverflowError e) {
      e.printStackTrace();
      check.due("seed " + seed + " throws " + e, 1, 0);
    }
  }

  private static int any(Random random) {
    switch (random.nextInt(6)) {
      case 0: return random.nextInt();
      case 1: return Integer.MIN_VALUE;
      case 2: return Integer.MAX_VALUE;
      case 3: return -1 - random.nextInt(5);
      default: return random.nextInt(30);
    }
  }

  private static void call(SnakeCore core, Random random) {
    switch (random.nextInt(12)) {
      case 0: core.feed(any(random), any(random), any(random), any(random), any(random)); break;
      case 1: core.end(any(random)); break;
      case 2: core.run(any(random)); break;
      case 3: core.octet(any(random)); break;
      case 4: core.count(any(random)); break;
      case 5: core.bind(random.nextLong()); break;
      case 6: core.value(); break;
      case 7: core.line(); break;
      case 8: Check.feed(core, PIECES[random.nextInt(PIECES.length)]); break;
      case 9: Check.feed(core, pieces(random)); break;
      case 10:
        core.end(0);
        Check.feed(core, new Programs(random.nextLong()).makeBroken());
        core.run(2000);
        break;
      default: core.run(500);
    }
  }

  private static String pieces(Random random) {
    StringBuilder s = new StringBuilder();
    int n = random.nextInt(60);
    for (int i = 0; i < n; i++) s.append(PIECES[random.nextInt(PIECES.length)]).append(random.nextInt(3) == 0 ? " " : "");
    return s.toString();
  }

  /** Far more names, code, constants and functions than 512 calls can bring. */
  private static void longUse() {
    SnakeCore core = new SnakeCore();
    int errors = 0;
    for (int i = 0; i < 200; i++) {
      StringBuilder s = new StringBuilder();
      for (int j = 0; s.length() < 2900; j++) {
        s.append("v").append(i).append('_').append(j).append(i % 3 == 0 ? "=1+1\n" : "\n");
        if (i % 2 == 0 && j % 4 == 0) s.append("def f").append(j).append("():\n pass\n");
      }
      if (Check.run(core, s.toString()) != 0) errors++;
    }
    check.due("some are refused", errors > 0 ? 1 : 0, 1);
    check.due("alive", core.count(0) <= 1500 ? 1 : 0, 1);
  }
}
