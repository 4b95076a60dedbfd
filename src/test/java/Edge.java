import java.util.function.Supplier;
import java.util.function.ToLongFunction;

/**
 * What the tests of the boundary cases share. Each test is of some words of the document and says them first;
 * what is wrong is told with them. Every object is asked far less than 512 times: what comes later is free.
 */
final class Edge {
  static final int MIN = Integer.MIN_VALUE, MAX = Integer.MAX_VALUE;
  private static final int BAD = -2, OTHER = -3, NOTHING = -4, STUCK = -5, FULL = -6;

  /** A call with one number left open. */
  interface Asks { long of(NineLasts x, int n); }

  private String words = "";
  private int sentences = 0;
  private int asked = 0;
  private int wrong = 0;

  /** What is looked at from here on is due by these words. */
  void of(String said) {
    words = said;
    sentences++;
  }

  private void tellWrong(String what) {
    wrong++;
    System.out.println("\"" + words + "\": " + what);
  }

  void due(String call, long got, long want) {
    asked++;
    if (got != want) tellWrong(call + " answered " + got + ", due is " + want);
  }

  void bad(String call, Supplier<NineLasts> made, ToLongFunction<NineLasts> asks) { refused(BAD, call, made, asks); }
  void other(String call, Supplier<NineLasts> made, ToLongFunction<NineLasts> asks) { refused(OTHER, call, made, asks); }
  void nothing(String call, Supplier<NineLasts> made, ToLongFunction<NineLasts> asks) { refused(NOTHING, call, made, asks); }
  void stuck(String call, Supplier<NineLasts> made, ToLongFunction<NineLasts> asks) { refused(STUCK, call, made, asks); }
  void full(String call, Supplier<NineLasts> made, ToLongFunction<NineLasts> asks) { refused(FULL, call, made, asks); }

  /** Each of these numbers may not be. */
  void badFor(String call, Supplier<NineLasts> made, Asks asks, int... numbers) {
    for (int n : numbers) bad(call + " with " + n, made, x -> asks.of(x, n));
  }

  /** The last numbers that may be are due elsewhere; these are the first that may not be, and the farthest. */
  void badBeyond(String call, Supplier<NineLasts> made, int least, int most, Asks asks) {
    badFor(call, made, asks, least - 1, most + 1, MIN, MAX);
  }

  /** Two objects made alike, of which one is asked: the other then differs by how many refusals there were alone. */
  private void refused(int code, String call, Supplier<NineLasts> made, ToLongFunction<NineLasts> asks) {
    NineLasts x = made.get();
    NineLasts twin = made.get();
    due(call, asks.applyAsLong(x), code);
    for (int i = 12; i <= 16; i++)
      due("status(" + i + ") after " + call, x.status(i), twin.status(i) + (i == 10 - code ? 1 : 0));
    same(call, x, twin);
  }

  /** Both are asked for all that they have, by which they are used up. */
  void same(String call, NineLasts x, NineLasts twin) {
    String got = reveal(x);
    String want = reveal(twin);
    asked++;
    if (!got.equals(want)) tellWrong(call + " left\n  " + got + "\n  and due is\n  " + want);
  }

  private static String reveal(NineLasts x) {
    StringBuilder all = new StringBuilder("tape ").append(x.status(1)).append(" shelves ").append(x.status(2));
    for (int s = 0; s < 8; s++) shelf(x, s, all);
    world(x, all);
    int read = x.valley();
    all.append("\n  read ").append(read);
    if (read >= 0) valley(x, read, all);
    all.append("\n  kept ").append(x.back());
    world(x, all);
    // A tape that stayed because there was no room may be read now.
    int later = x.valley();
    all.append("\n  read ").append(later);
    if (later >= 0) valley(x, later, all);
    return all.toString();
  }

  private static void shelf(NineLasts x, int s, StringBuilder all) {
    int holds = x.holds(s);
    all.append(" | ").append(holds);
    if (holds > 10) all.append(" last ").append(x.says(s, 0));
    if (holds > 11) all.append(" a ").append(x.says(s, holds - 10));
    // The row's size is found by copying it upon itself.
    for (int i = 0; holds >= 0 && holds < 10 && x.copy(s, s, i, i, 1) == 1; i++) all.append(' ').append(x.element(s, i));
  }

  private static void world(NineLasts x, StringBuilder all) {
    for (int v = 0; v < x.status(0); v++) valley(x, v, all);
    all.append("\n  going-through");
    for (int what = 0; what < 5; what++) all.append(' ').append(x.search(what));
    all.append(' ').append(x.step(999)).append(' ').append(x.search(3));
  }

  private static void valley(NineLasts x, int v, StringBuilder all) {
    all.append("\n  valley");
    int feet = x.valleyOf(v, 0);
    int lasts = x.valleyOf(v, 1);
    for (int w = 2; w <= 10; w++) all.append(' ').append(x.valleyOf(v, w));
    for (int f = 0; f < feet; f++)
      for (int w = 0; w < 5; w++) all.append(w == 0 ? " foot " : " ").append(x.footOf(v, f, w));
    for (int l = 0; l < lasts; l++)
      for (int w = 0; w < 4; w++) all.append(w == 0 ? " last " : " ").append(x.lastOf(v, l, w));
  }

  void end(String name) {
    System.out.println(name + ": " + sentences + " sentences, " + asked + " looked at, " + wrong + " wrong");
    if (wrong != 0 || asked == 0) System.exit(1);
  }

  // ---- objects to begin with

  static NineLasts with(String... texts) { return Checks.with(texts); }

  /** Two valleys, an image that is another by now, a going-through under way, a tape, three rows, three tools; 6 and 7 hold nothing. */
  static NineLasts rich() {
    NineLasts x = with("foot 5 5 5 times 2;foot 7 6 6 give 1;last 7 7 7 price 3;last 5 5 6;out 20;grow 2",
        "foot 6 6 6;last 8 8 8;waste 1 2 3;over 4 5 6");
    x.begin(1, 1);
    x.step(1);
    x.image();
    x.carve(0, 0, 3, 4);
    x.alter(1, 0, 0, 3);
    x.begin(0, 2);
    x.step(2);
    Checks.fill(x, 0, 2, 5, 6, 7, 1);
    Checks.fill(x, 1, 2, 1, 0);
    Checks.fill(x, 2, 3, 9, 9, 9);
    x.tool(3, 1, 0, 4);
    x.tool(4, 2, 9, 3);
    x.tool(5, 3, 1, 1);
    Checks.tell(x, "out 7");
    return x;
  }

  /** Ten lasts with room for none more, of which the first has 40 and the second 1 in each measure; a foot that none does for. */
  static NineLasts tenLasts() {
    NineLasts x = with("foot 30 30 30;last 40 40 40;last 1 1 1;over 0 0 0");
    for (int a = 1; a <= 8; a++) x.build(0, 1, a);
    return x;
  }

  /** Twelve feet, 0 0 0 to 11 11 11, each twice; no last. */
  static NineLasts twelveFeet() {
    NineLasts x = with("foot 0 0 0 times 2;foot 1 1 1 times 2");
    Checks.fill(x, 0, 0, row(2, 10));
    x.feet(0, 0);
    x.row(0, 0, 0);
    return x;
  }

  /** Four elements each for feet f f f, twice, from first on. */
  static long[] row(int first, int count) {
    long[] row = new long[4 * count];
    for (int i = 0; i < row.length; i++) row[i] = i % 4 == 3 ? 2 : first + i / 4;
    return row;
  }

  static NineLasts fourValleys() { return with("out 1", "out 2", "out 3", "out 4"); }
}
