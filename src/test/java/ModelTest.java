/** Promises 1 to 9 all together: texts made by chance, done here and by a second reading of the document. */
public final class ModelTest {
  private static final String[] NAMES = {"a", "b", "c", "d", "e", "l", "m", "x", "y", "f", "g", "h", "A", "B"};
  private static final Check check = new Check();
  private static int faults;
  private static int clean;
  private static int shown;

  public static void main(String[] args) throws InterruptedException {
    long seeds = args.length > 0 ? Long.parseLong(args[0]) : 5000;
    long from = args.length > 1 ? Long.parseLong(args[1]) : 0;
    Thread thread = new Thread(null, () -> all(from, seeds), "model", 1L << 28);
    thread.start();
    thread.join();
    System.out.println(faults + " faults, " + clean + " without an error");
    check.end();
  }

  private static void all(long from, long seeds) {
    for (long seed = from; seed < from + seeds && shown < 5; seed++) one(seed);
  }

  private static void one(long seed) {
    Programs programs = new Programs(seed);
    SnakeCore core = new SnakeCore();
    Model model = new Model();
    int runs = 1 + programs.below(6);
    for (int i = 0; i < runs; i++) {
      String text = programs.below(3) == 0 ? programs.makeBroken() : programs.make();
      int fuel = programs.below(4) == 0 ? 1 + programs.below(60) : programs.below(8) == 0 ? 20000 : 2000;
      Check.feed(core, text);
      int want = model.run(text, fuel);
      int got = core.run(fuel);
      if (want == -1) faults++;
      if (want == 0) clean++;
      String wanted = state(want, model);
      String found = state(got, core);
      check.due("seed " + seed + " run " + i, found, wanted);
      if (!found.equals(wanted)) {
        shown++;
        System.out.println(numbered(text));
        return;
      }
    }
  }

  private static String state(int answer, SnakeCore core) {
    StringBuilder s = new StringBuilder("answer " + answer + " line " + core.line() + " counts");
    for (int what = 0; what <= 9; what++) s.append(' ').append(core.count(what));
    for (String name : NAMES) {
      Check.feed(core, name);
      s.append(' ').append(core.value());
    }
    return s + " out\n" + Check.out(core);
  }

  private static String state(int answer, Model model) {
    StringBuilder s = new StringBuilder("answer " + answer + " line " + model.latestLine + " counts");
    for (int what = 0; what <= 9; what++) s.append(' ').append(model.count(what));
    for (String name : NAMES) {
      Object v = model.globals.get(name);
      s.append(' ').append(v == null ? (1L << 62) + 1 : v instanceof Long ? (Long) v : 1L << 62);
    }
    return s + " out\n" + model.out;
  }

  private static String numbered(String text) {
    StringBuilder s = new StringBuilder();
    String[] lines = text.split("\n", -1);
    for (int i = 0; i < lines.length; i++) s.append(i + 1).append(' ').append(lines[i]).append('\n');
    return s.toString();
  }
}
