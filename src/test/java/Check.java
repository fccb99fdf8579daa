import java.nio.charset.StandardCharsets;

/** What the tests share: texts on the tape, answers that are due, and the end with a code. */
final class Check {
  private int wrong;
  private int asked;

  /** The beginning of a long text, so that a wrong answer can be read. */
  private static String cut(String text) {
    return text.length() <= 600 ? text : text.substring(0, 600) + " .. " + text.length() + " bytes";
  }

  void due(String what, long got, long want) {
    asked++;
    if (got != want) {
      wrong++;
      System.out.println(cut(what) + ": answered " + got + ", due is " + want);
    }
  }

  void due(String what, String got, String want) {
    asked++;
    if (!got.equals(want)) {
      wrong++;
      System.out.println(cut(what) + ": answered <" + got + ">, due is <" + want + ">");
    }
  }

  /** Ends the test: with exit code 1 if an answer was wrong. */
  void end() {
    System.out.println(asked + " answers asked, " + wrong + " wrong");
    if (wrong > 0) System.exit(1);
  }

  /** Feeds bytes to the tape and cuts off the rest of the last twenty. */
  static void feed(SnakeCore core, byte[] bytes) {
    int had = 0;
    for (int from = 0; from < bytes.length; from += 20) {
      int[] words = new int[5];
      for (int i = 0; i < 20; i++) {
        int b = from + i < bytes.length ? bytes[from + i] & 255 : 0;
        words[i / 4] |= b << (24 - 8 * (i % 4));
      }
      had = core.feed(words[0], words[1], words[2], words[3], words[4]);
    }
    if (bytes.length > 0) core.end(had - (20 - bytes.length % 20) % 20);
  }

  static void feed(SnakeCore core, String text) {
    feed(core, text.getBytes(StandardCharsets.ISO_8859_1));
  }

  static int run(SnakeCore core, String text) {
    feed(core, text);
    return core.run(20000);
  }

  static String out(SnakeCore core) {
    StringBuilder text = new StringBuilder();
    int length = core.octet(-1);
    for (int i = 0; i < length; i++) text.append((char) core.octet(i));
    return text.toString();
  }

  static String lines(String... lines) {
    return String.join("\n", lines) + "\n";
  }

  /** A text on a new object: the error that ended it, its line, and what it printed. */
  void does(String text, int error, int line, String out) {
    SnakeCore core = new SnakeCore();
    int answer = run(core, text);
    due("run of\n" + text, answer, error);
    due("line of\n" + text, core.line(), line);
    due("out of\n" + text, out(core), out);
  }

  void prints(String text, String out) {
    does(text, 0, 0, out);
  }

  void hasFault(String text, int line) {
    does(text, -1, line, "");
  }

  /** A text that is one expression: the text that print makes of it. */
  void gives(String expression, String out) {
    prints("print(" + expression + ")", out + "\n");
  }

  void errs(String expression, int error) {
    does("x = " + expression, error, 1, "");
  }
}
