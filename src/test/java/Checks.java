import java.util.function.LongSupplier;

/** What the tests of the promises share: counting what is wrong, feeding texts, looking at all that can be seen. */
final class Checks {
  private int wrong = 0;
  private int asked = 0;

  void due(String call, long got, long want) {
    asked++;
    if (got != want) {
      wrong++;
      System.out.println(call + " answered " + got + ", due is " + want);
    }
  }

  /** A call that is refused: its answer, its count one more, and nothing else changed. */
  void refused(NineLasts x, String call, LongSupplier asks, int code) {
    String before = look(x);
    int[] counts = counts(x);
    due(call, asks.getAsLong(), code);
    counts[-2 - code]++;
    for (int i = 0; i < 5; i++) due("status(" + (12 + i) + ") after " + call, x.status(12 + i), counts[i]);
    String after = look(x);
    asked++;
    if (!before.equals(after)) {
      wrong++;
      System.out.println(call + " was refused and changed\n  " + before + "\n  to\n  " + after);
    }
  }

  void bad(NineLasts x, String call, LongSupplier asks) { refused(x, call, asks, -2); }
  void other(NineLasts x, String call, LongSupplier asks) { refused(x, call, asks, -3); }
  void nothing(NineLasts x, String call, LongSupplier asks) { refused(x, call, asks, -4); }
  void stuck(NineLasts x, String call, LongSupplier asks) { refused(x, call, asks, -5); }
  void full(NineLasts x, String call, LongSupplier asks) { refused(x, call, asks, -6); }

  private static int[] counts(NineLasts x) {
    int[] counts = new int[5];
    for (int i = 0; i < 5; i++) counts[i] = x.status(12 + i);
    return counts;
  }

  /** All that can be seen by calls that are not refused. */
  static String look(NineLasts x) {
    StringBuilder all = new StringBuilder("tape ").append(x.status(1));
    for (int s = 0; s < 8; s++) {
      all.append(" | ").append(x.holds(s));
      if (x.holds(s) >= 10) all.append(" last ").append(x.says(s, 0)).append(" a ").append(aOf(x, s));
      for (int i = 0; i < 40; i++) all.append(x.element(s, i) == 0 ? "." : x.element(s, i) + ",");
    }
    for (int v = 0; v < x.status(0); v++) {
      all.append("\n  valley");
      for (int w = 0; w <= 10; w++) all.append(' ').append(x.valleyOf(v, w));
      for (int f = 0; f < x.valleyOf(v, 0); f++)
        for (int w = 0; w < 5; w++) all.append(w == 0 ? " f " : " ").append(x.footOf(v, f, w));
      for (int l = 0; l < x.valleyOf(v, 1); l++)
        for (int w = 0; w < 4; w++) all.append(w == 0 ? " l " : " ").append(x.lastOf(v, l, w));
    }
    return all.toString();
  }

  /** The a of a tool is said under its own kind alone; of MADE it is never said. */
  private static int aOf(NineLasts x, int s) {
    int kind = x.holds(s) - 10;
    return kind == 1 ? 0 : x.says(s, kind);
  }

  /** Feeds a text, four bytes a call; the answer of the last call, or 0 for an empty text. */
  static int tell(NineLasts x, String text) {
    int size = 0;
    for (int i = 0; i < text.length(); i += 4) {
      int n = Math.min(4, text.length() - i);
      int v = 0;
      for (int k = 0; k < n; k++) v = v << 8 | text.charAt(i + k);
      size = x.feed(v, n);
    }
    return size;
  }

  static NineLasts with(String... texts) {
    NineLasts x = new NineLasts();
    for (String text : texts) {
      tell(x, text);
      x.valley();
    }
    return x;
  }

  static void fill(NineLasts x, int s, int sort, long... elements) {
    x.row(s, sort, elements.length);
    for (int i = 0; i < elements.length; i++) x.set(s, i, elements[i]);
  }

  void end(String name) {
    System.out.println(name + ": " + asked + " looked at, " + wrong + " wrong");
    if (wrong != 0 || asked == 0) System.exit(1);
  }
}
