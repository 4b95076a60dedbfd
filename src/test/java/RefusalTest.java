import java.util.function.Supplier;
import java.util.function.ToLongFunction;

/**
 * Each promise's refusals, in the order in which its section lists them; where two fit, the one that comes first.
 * Every refused call is asked of one of two twins, which then differ by how many refusals there were alone.
 * Of a rich object (Edge.rich): valleys 0 and 1; shelf 0 and 1 rows of ints (4 and 2 elements), 2 a row of longs (3),
 * 3 a tool of LAST 0, 4 a tool of LAST 9, 5 a tool of LAST 1; 6 and 7 hold nothing.
 */
public final class RefusalTest {
  private static final Edge e = new Edge();
  private static final int MIN = Edge.MIN, MAX = Edge.MAX;
  private static final int ROW = 0, TOOL = 3, NO_LAST = 4, EMPTY = 6;
  private static final int[] NO_SHELF = {-1, 8, MIN, MAX};
  private static final int[] NO_VALLEY = {-1, 2, 4, MIN, MAX};

  /** BAD for a rich object, with each of these numbers. */
  private static void bad(String call, Edge.Asks asks, int... numbers) { e.badFor(call, Edge::rich, asks, numbers); }
  private static void bad(String call, ToLongFunction<NineLasts> asks) { e.bad(call, Edge::rich, asks); }
  private static void other(String call, ToLongFunction<NineLasts> asks) { e.other(call, Edge::rich, asks); }
  private static void nothing(String call, ToLongFunction<NineLasts> asks) { e.nothing(call, Edge::rich, asks); }
  private static void stuck(String call, ToLongFunction<NineLasts> asks) { e.stuck(call, Edge::rich, asks); }

  /** A call of a valley alone: none of that number, in an object that has two, none or four of them. */
  private static void noValley(String call, Edge.Asks asks) {
    bad(call + ": no valley", asks, NO_VALLEY);
    e.badFor(call + ": no valley at all", NineLasts::new, asks, 0, -1, 3, 4);
    e.badFor(call + ": of four", Edge::fourValleys, asks, -1, 4);
  }

  /** What is refused as BAD even if the shelf would be refused as OTHER or NOTHING. */
  private static void aheadOfShelf(String call, Edge.Asks byShelf) {
    bad(call + ", a shelf that holds another thing", byShelf, ROW, TOOL);
    bad(call + ", a shelf that holds nothing", byShelf, EMPTY);
  }

  private static void rowRefused() {
    e.of("row: BAD.");
    for (int held : new int[] {ROW, TOOL, EMPTY}) {
      bad("sort", (x, sort) -> x.row(held, sort, 3), -1, 5, MIN, MAX);
      bad("n", (x, n) -> x.row(held, 0, n), -1, 41, MIN, MAX);
    }
    bad("shelf", (x, s) -> x.row(s, 0, 0), NO_SHELF);
    bad("all three", x -> x.row(8, 5, 41));
  }

  private static void setRefused() {
    e.of("set: BAD SHELF; OTHER; NOTHING; BAD i.");
    bad("shelf", (x, s) -> x.set(s, 0, 1), NO_SHELF);
    other("a tool", x -> x.set(TOOL, 0, 1));
    nothing("nothing", x -> x.set(EMPTY, 0, 1));
    bad("i", (x, i) -> x.set(ROW, i, 1), -1, 4, 40, MIN, MAX);
    bad("shelf and i", x -> x.set(8, -1, 1));
    for (int i : new int[] {-1, 40, MIN, MAX}) {
      other("a tool, and i " + i, x -> x.set(TOOL, i, 1));
      nothing("nothing, and i " + i, x -> x.set(EMPTY, i, 1));
    }
    e.badFor("i of an empty row", () -> {
      NineLasts x = new NineLasts();
      x.row(0, 3, 0);
      return x;
    }, (x, i) -> x.set(0, i, 1), -1, 0, 1);
    e.bad("i behind a full row", () -> {
      NineLasts x = new NineLasts();
      x.row(0, 3, 40);
      return x;
    }, x -> x.set(0, 40, 1));
  }

  private static void copyRefused() {
    e.of("copy: BAD SHELVES; OTHER (also ROWS of two SORTS, if both hold something); NOTHING; BAD the others.");
    bad("p", (x, p) -> x.copy(p, ROW, 0, 0, 1), NO_SHELF);
    bad("q", (x, q) -> x.copy(ROW, q, 0, 0, 1), NO_SHELF);
    for (int held : new int[] {TOOL, EMPTY}) {
      bad("p, ahead of what q holds", x -> x.copy(8, held, 0, 0, 1));
      bad("q, ahead of what p holds", x -> x.copy(held, -1, 0, 0, 1));
    }
    other("p a tool", x -> x.copy(TOOL, ROW, 0, 0, 1));
    other("q a tool", x -> x.copy(ROW, TOOL, 0, 0, 1));
    other("both tools", x -> x.copy(TOOL, NO_LAST, 0, 0, 1));
    other("a tool upon itself", x -> x.copy(TOOL, TOOL, 0, 0, 0));
    other("two sorts", x -> x.copy(ROW, 2, 0, 0, 1));
    other("two sorts, the other way", x -> x.copy(2, ROW, 0, 0, 1));
    other("two sorts, none of them", x -> x.copy(2, ROW, 0, 0, 0));
    other("p a tool, ahead of q nothing", x -> x.copy(TOOL, EMPTY, 0, 0, 1));
    other("q a tool, ahead of p nothing", x -> x.copy(EMPTY, TOOL, 0, 0, 1));
    other("a tool, ahead of i", x -> x.copy(TOOL, ROW, -1, 0, 1));
    other("two sorts, ahead of i", x -> x.copy(ROW, 2, 9, 0, 1));
    other("two sorts, ahead of n", x -> x.copy(ROW, 2, 0, 0, -1));
    nothing("p nothing", x -> x.copy(EMPTY, ROW, 0, 0, 1));
    nothing("q nothing, whatever the sort", x -> x.copy(2, EMPTY, 0, 0, 1));
    nothing("both nothing", x -> x.copy(EMPTY, 7, 0, 0, 0));
    nothing("nothing upon itself", x -> x.copy(EMPTY, EMPTY, 0, 0, 0));
    nothing("p nothing, ahead of n", x -> x.copy(EMPTY, ROW, 0, 0, 9));
    nothing("q nothing, ahead of j", x -> x.copy(ROW, EMPTY, 0, -1, 1));
  }

  private static void copyOthersRefused() {
    e.of("copy: .. BAD the others.");
    // From four elements to two.
    bad("i", (x, i) -> x.copy(0, 1, i, 0, 1), -1, 4, 5, 40, MIN, MAX);
    bad("j", (x, j) -> x.copy(0, 1, 0, j, 1), -1, 2, 3, 40, MIN, MAX);
    bad("n", (x, n) -> x.copy(0, 1, 0, 0, n), -1, 3, 4, 40, MIN, MAX);
    bad("n from the row's end", (x, n) -> x.copy(1, 0, 1, 0, n), -1, 2, 3, MAX, MAX - 1, MIN);
    bad("n to the row's end", (x, n) -> x.copy(0, 0, 0, 3, n), -1, 2, MAX, MAX - 2, MAX - 3, MIN);
    bad("n from behind", (x, n) -> x.copy(0, 1, 4, 0, n), -1, 1, MAX, MIN);
    bad("i behind the end, none of them", (x, i) -> x.copy(0, 1, i, 0, 0), -1, 5, MIN, MAX);
    bad("j behind the end, none of them", (x, j) -> x.copy(0, 1, 0, j, 0), -1, 3, MIN, MAX);
    e.badFor("of an empty row", () -> {
      NineLasts x = new NineLasts();
      x.row(0, 1, 0);
      x.row(1, 1, 3);
      return x;
    }, (x, n) -> x.copy(0, 1, 0, 0, n), 1, -1, 3);
    e.bad("41 of 40", () -> {
      NineLasts x = new NineLasts();
      x.row(0, 1, 40);
      x.row(1, 1, 40);
      return x;
    }, x -> x.copy(0, 1, 0, 0, 41));
  }

  private static void toolRefused() {
    e.of("tool: BAD.");
    bad("shelf", (x, s) -> x.tool(s, 1, 0, 0), NO_SHELF);
    for (int held : new int[] {ROW, TOOL, EMPTY}) {
      bad("kind", (x, kind) -> x.tool(held, kind, 0, 0), 0, -1, 6, MIN, MAX);
      bad("last", (x, last) -> x.tool(held, 1, last, 0), -1, 10, MIN, MAX);
      bad("a", (x, a) -> x.tool(held, 1, 0, a), -1, 31, MIN, MAX);
    }
    for (int kind = 1; kind <= 5; kind++) {
      int k = kind;
      bad("last of kind " + k, x -> x.tool(ROW, k, 10, 0));
      bad("a of kind " + k, x -> x.tool(ROW, k, 0, 31));
    }
  }

  private static void saysRefused() {
    e.of("says: BAD SHELF, KIND; OTHER (also if it is of no such KIND nor of one under it); NOTHING.");
    bad("shelf", (x, s) -> x.says(s, 0), NO_SHELF);
    bad("kind", (x, kind) -> x.says(TOOL, kind), -1, 6, MIN, MAX);
    aheadOfShelf("kind 6", (x, s) -> x.says(s, 6));
    aheadOfShelf("kind -1", (x, s) -> x.says(s, -1));
    for (int kind = 0; kind <= 5; kind++) {
      int k = kind;
      other("a row, as " + k, x -> x.says(ROW, k));
      nothing("nothing, as " + k, x -> x.says(EMPTY, k));
      if (k > 1) other("MADE is no " + k, x -> x.says(TOOL, k));
      if (k > 0 && k != 3) other("OWN is no " + k, x -> x.says(5, k));
      if (k > 2) other("BUILT is no " + k, x -> x.says(NO_LAST, k));
    }
    for (int kind = 2; kind <= 5; kind++)
      for (int as = 2; as <= 5; as++) {
        int k = kind, a = as;
        if (k != a) e.other(k + " is no " + a, () -> {
          NineLasts x = new NineLasts();
          x.tool(7, k, 1, 1);
          return x;
        }, x -> x.says(7, a));
      }
  }

  private static void triesRefused() {
    e.of("tries: BAD; OTHER; NOTHING; STUCK: no such LAST there.");
    noValley("tries", (x, v) -> x.tries(v, 0, TOOL));
    bad("foot", (x, f) -> x.tries(0, f, TOOL), -1, 2, 12, MIN, MAX);
    bad("foot of the other valley", (x, f) -> x.tries(1, f, TOOL), 1);
    bad("shelf", (x, s) -> x.tries(0, 0, s), NO_SHELF);
    aheadOfShelf("no valley", (x, s) -> x.tries(2, 0, s));
    aheadOfShelf("no foot", (x, s) -> x.tries(0, 2, s));
    bad("no valley, ahead of STUCK", x -> x.tries(-1, 0, NO_LAST));
    bad("no foot, ahead of STUCK", x -> x.tries(0, -1, NO_LAST));
    other("a row", x -> x.tries(0, 0, ROW));
    nothing("nothing", x -> x.tries(0, 0, EMPTY));
    stuck("no LAST 9", x -> x.tries(0, 0, NO_LAST));
    stuck("no LAST 1 in valley 1", x -> x.tries(1, 0, 5));
  }

  private static void shoesRefused() {
    e.of("shoes: BAD; OTHER; NOTHING; STUCK likewise.");
    noValley("shoes", (x, v) -> x.shoes(v, TOOL));
    bad("shelf", (x, s) -> x.shoes(0, s), NO_SHELF);
    aheadOfShelf("no valley", (x, s) -> x.shoes(2, s));
    bad("no valley, ahead of STUCK", x -> x.shoes(-1, NO_LAST));
    other("a row", x -> x.shoes(0, ROW));
    nothing("nothing", x -> x.shoes(0, EMPTY));
    stuck("no LAST 9", x -> x.shoes(0, NO_LAST));
    stuck("no LAST 1 in valley 1", x -> x.shoes(1, 5));
    e.stuck("no LAST, no FOOT", () -> {
      NineLasts x = Edge.with("out 1");
      x.tool(0, 3, 0, 0);
      return x;
    }, x -> x.shoes(0, 0));
  }

  private static NineLasts tapeOf(int size) {
    NineLasts x = Edge.with("out 1");
    Checks.tell(x, "out 2" + " ".repeat(size - 5));
    return x;
  }

  private static void feedRefused() {
    e.of("feed: BAD; FULL.");
    bad("n", (x, n) -> x.feed(0x20202020, n), 0, -1, 5, MIN, MAX);
    for (int n : new int[] {0, -1, 5, MIN, MAX}) e.bad("n " + n + ", ahead of FULL", () -> tapeOf(250), x -> x.feed(1, n));
    for (int n = 1; n <= 4; n++) {
      int bytes = n;
      for (int size = 251 - n; size <= 250; size++) {
        int s = size;
        e.full(n + " to " + size, () -> tapeOf(s), x -> x.feed(0x20202020, bytes));
      }
    }
    NineLasts x = tapeOf(249);
    e.due("2 to 249", x.feed(0x2020, 2), -6);
    e.due("1 to 249, later", x.feed(0x20, 1), 250);
  }

  private static void wipeIsNeverRefused() {
    e.of("wipe: THE TAPE is empty: its size ahead. (no refusals)");
    NineLasts x = Edge.rich();
    NineLasts twin = Edge.rich();
    int[] before = new int[5];
    for (int i = 0; i < 5; i++) before[i] = x.status(12 + i);
    e.due("wipe()", x.wipe(), 5);
    e.due("wipe()", x.wipe(), 0);
    for (int i = 0; i < 5; i++) e.due("status(" + (12 + i) + ")", x.status(12 + i), before[i]);
    Checks.tell(x, "out 7");
    e.same("wiped and told again", x, twin);
  }

  private static void readersRefused() {
    e.of("valleyOf, footOf, lastOf: BAD.");
    noValley("valleyOf", (x, v) -> x.valleyOf(v, 0));
    noValley("footOf", (x, v) -> x.footOf(v, 0, 0));
    noValley("lastOf", (x, v) -> x.lastOf(v, 0, 0));
    for (int v = 0; v < 2; v++) {
      int w = v;
      bad("valleyOf what", (x, what) -> x.valleyOf(w, what), -1, 11, MIN, MAX);
      bad("footOf what", (x, what) -> x.footOf(w, 0, what), -1, 5, MIN, MAX);
      bad("lastOf what", (x, what) -> x.lastOf(w, 0, what), -1, 4, MIN, MAX);
      bad("footOf foot", (x, f) -> x.footOf(w, f, 0), -1, 2 - w, 12, MIN, MAX);
      bad("lastOf last", (x, l) -> x.lastOf(w, l, 0), -1, 2 - w, 10, MIN, MAX);
    }
    Supplier<NineLasts> empty = () -> Edge.with("out 1");
    e.bad("footOf no feet", empty, x -> x.footOf(0, 0, 0));
    e.bad("lastOf no lasts", empty, x -> x.lastOf(0, 0, 0));
  }

  private static void feetRefused() {
    e.of("feet: BAD; OTHER; NOTHING.");
    noValley("feet", (x, v) -> x.feet(v, ROW));
    bad("shelf", (x, s) -> x.feet(0, s), NO_SHELF);
    aheadOfShelf("no valley", (x, s) -> x.feet(2, s));
    other("a tool", x -> x.feet(0, TOOL));
    nothing("nothing", x -> x.feet(0, EMPTY));
    e.other("a tool, and no room", () -> {
      NineLasts x = Edge.twelveFeet();
      x.tool(0, 1, 0, 0);
      return x;
    }, x -> x.feet(0, 0));
    NineLasts x = Edge.rich();
    e.due("a row", x.feet(1, ROW), 1);
  }

  private static void alterRefused() {
    e.of("alter: BAD.");
    noValley("alter", (x, v) -> x.alter(v, 0, 0, 1));
    bad("foot", (x, f) -> x.alter(0, f, 0, 1), -1, 2, 12, MIN, MAX);
    bad("foot of valley 1", (x, f) -> x.alter(1, f, 0, 1), 1);
    bad("what", (x, what) -> x.alter(0, 0, what, 1), -1, 2, 3, 4, MIN, MAX);
    bad("times", (x, v) -> x.alter(0, 0, 0, v), 0, -1, 100, MIN, MAX);
    bad("give", (x, v) -> x.alter(0, 0, 1, v), -1, 10, 99, MIN, MAX);
  }

  private static void carveRefused() {
    e.of("carve: BAD.");
    noValley("carve", (x, v) -> x.carve(v, 0, 0, 1));
    bad("last", (x, l) -> x.carve(0, l, 0, 1), -1, 2, 10, MIN, MAX);
    bad("last of valley 1", (x, l) -> x.carve(1, l, 0, 1), 1);
    bad("what", (x, what) -> x.carve(0, 0, what, 1), -1, 4, MIN, MAX);
    for (int what = 0; what < 3; what++) {
      int w = what;
      bad("measure " + w, (x, v) -> x.carve(0, 0, w, v), -1, 41, 99, MIN, MAX);
    }
    bad("price", (x, v) -> x.carve(0, 0, 3, v), -1, 100, MIN, MAX);
  }

  private static void buildRefused() {
    e.of("build: BAD; STUCK: a measure above 40; FULL.");
    noValley("build", (x, v) -> x.build(v, 0, 1));
    bad("last", (x, l) -> x.build(0, l, 1), -1, 2, 10, MIN, MAX);
    bad("last of valley 1", (x, l) -> x.build(1, l, 1), 1);
    bad("a", (x, a) -> x.build(0, 0, a), 0, -1, 10, MIN, MAX);
    // Of ten lasts the first has 40 in each measure.
    e.badFor("a, ahead of STUCK and FULL", Edge::tenLasts, (x, a) -> x.build(0, 0, a), 0, 10, MAX);
    e.badFor("a, ahead of FULL", Edge::tenLasts, (x, a) -> x.build(0, 1, a), 0, 10);
    e.badFor("last, ahead of FULL", Edge::tenLasts, (x, l) -> x.build(0, l, 1), -1, 10);
    e.stuck("STUCK, ahead of FULL", Edge::tenLasts, x -> x.build(0, 0, 1));
    e.stuck("STUCK", () -> Edge.with("last 40 1 1;last 1 40 1;last 1 1 40"), x -> x.build(0, 0, 1));
    e.stuck("STUCK", () -> Edge.with("last 40 1 1;last 1 40 1;last 1 1 40"), x -> x.build(0, 1, 1));
    e.stuck("STUCK", () -> Edge.with("last 40 1 1;last 1 40 1;last 1 1 40"), x -> x.build(0, 2, 1));
    e.full("FULL", Edge::tenLasts, x -> x.build(0, 1, 1));
  }

  private static void valleyAlone() {
    e.of("year, bound, corners, idle: BAD.");
    noValley("year", (x, v) -> x.year(v));
    noValley("bound", (x, v) -> x.bound(v));
    noValley("corners", (x, v) -> x.corners(v));
    noValley("idle", (x, v) -> x.idle(v));
  }

  private static void doesRefused() {
    e.of("does, bad: BAD.");
    noValley("does", (x, v) -> x.does(v, 0, 0));
    noValley("bad", (x, v) -> x.bad(v, 0, 0));
    for (int v = 0; v < 2; v++) {
      int w = v;
      bad("does last", (x, l) -> x.does(w, l, 0), -1, 2 - w, 10, MIN, MAX);
      bad("does foot", (x, f) -> x.does(w, 0, f), -1, 2 - w, 12, MIN, MAX);
      bad("bad last", (x, l) -> x.bad(w, l, 0), -1, 2 - w, 10, MIN, MAX);
      bad("bad foot", (x, f) -> x.bad(w, 0, f), -1, 2 - w, 12, MIN, MAX);
    }
    // One last and two feet, then two lasts and one foot: which is which.
    e.bad("does(0, 1, 0)", () -> Edge.with("foot 1 1 1;foot 1 1 1;last 1 1 1"), x -> x.does(0, 1, 0));
    e.bad("bad(0, 1, 0)", () -> Edge.with("foot 1 1 1;foot 1 1 1;last 1 1 1"), x -> x.bad(0, 1, 0));
    e.bad("does(0, 0, 1)", () -> Edge.with("foot 1 1 1;last 1 1 1;last 1 1 1"), x -> x.does(0, 0, 1));
    e.bad("bad(0, 0, 1)", () -> Edge.with("foot 1 1 1;last 1 1 1;last 1 1 1"), x -> x.bad(0, 0, 1));
    e.bad("no lasts", () -> Edge.with("foot 1 1 1"), x -> x.bad(0, 0, 0));
    e.bad("no feet", () -> Edge.with("last 1 1 1"), x -> x.does(0, 0, 0));
  }

  private static void setsRefused() {
    e.of("whose, total, out, changed: BAD.");
    noValley("whose", (x, v) -> x.whose(v, 0, 0));
    noValley("total", (x, v) -> x.total(v, 0));
    noValley("out", (x, v) -> x.out(v, 0));
    noValley("changed", (x, v) -> x.changed(v, 0));
    bad("whose foot", (x, f) -> x.whose(0, f, 0), -1, 2, 12, MIN, MAX);
    bad("whose foot of valley 1", (x, f) -> x.whose(1, f, 0), 1);
    for (int v = 0; v < 2; v++) {
      int w = v;
      int beyond = v == 0 ? 4 : 2;
      bad("whose set", (x, set) -> x.whose(w, 0, set), -1, beyond, 1024, MIN, MAX);
      bad("total set", (x, set) -> x.total(w, set), -1, beyond, 1024, MIN, MAX);
      bad("out set", (x, set) -> x.out(w, set), -1, beyond, 1024, MIN, MAX);
      bad("changed set", (x, set) -> x.changed(w, set), -1, beyond, 1024, MIN, MAX);
    }
  }

  private static void judgeRefused() {
    e.of("judge: BAD; OTHER; NOTHING.");
    noValley("judge", (x, v) -> x.judge(v, 0, ROW));
    bad("set", (x, set) -> x.judge(0, set, ROW), -1, 4, 1024, MIN, MAX);
    bad("set of valley 1", (x, set) -> x.judge(1, set, ROW), 2);
    bad("shelf", (x, s) -> x.judge(0, 0, s), NO_SHELF);
    aheadOfShelf("no valley", (x, s) -> x.judge(2, 0, s));
    aheadOfShelf("no set", (x, s) -> x.judge(0, 4, s));
    other("a tool", x -> x.judge(0, 3, TOOL));
    nothing("nothing", x -> x.judge(0, 3, EMPTY));
  }

  private static void countsRefused() {
    e.of("best, more, enough, fair, shod, doubt, begin: BAD.");
    noValley("best", (x, v) -> x.best(v, 1));
    noValley("more", (x, v) -> x.more(v, 1));
    noValley("enough", (x, v) -> x.enough(v, 1));
    noValley("fair", (x, v) -> x.fair(v, 1));
    noValley("shod", (x, v) -> x.shod(v, 1));
    noValley("doubt", (x, v) -> x.doubt(v, 1));
    noValley("begin", (x, v) -> x.begin(v, 1));
    bad("best of", (x, n) -> x.best(0, n), -1, 11, MIN, MAX);
    bad("more of", (x, n) -> x.more(0, n), -1, 10, 11, MIN, MAX);
    bad("enough", (x, v) -> x.enough(0, v), -1, MIN);
    bad("fair of", (x, n) -> x.fair(0, n), -1, 11, MIN, MAX);
    bad("shod of", (x, n) -> x.shod(0, n), -1, 11, MIN, MAX);
    bad("doubt of", (x, n) -> x.doubt(0, n), -1, 11, MIN, MAX);
    bad("begin of (the one under way stays)", (x, n) -> x.begin(1, n), -1, 11, MIN, MAX);
  }

  private static void lineRefused() {
    e.of("line: BAD: no FEET, no such SIZE, too.");
    noValley("line", (x, v) -> x.line(v, 0, 1, 0));
    bad("measure", (x, m) -> x.line(0, m, 1, 0), -1, 3, MIN, MAX);
    bad("n", (x, n) -> x.line(0, 0, n, 0), 0, -1, 7, MIN, MAX);
    bad("what", (x, w) -> x.line(0, 0, 2, w), -1, 2, 9, 12, 15, 16, MIN, MAX);
    bad("one size of two asked for", (x, w) -> x.line(0, 0, 1, w), 11);
    e.badFor("no feet", () -> Edge.with("last 1 1 1"), (x, w) -> x.line(0, 0, 6, w), 0, 1, 10);
  }

  private static void cornerRefused() {
    e.of("corner: BAD: no FEET, too.");
    noValley("corner", (x, v) -> x.corner(v, 0));
    bad("what", (x, w) -> x.corner(0, w), -1, 5, MIN, MAX);
    e.badFor("no feet", () -> Edge.with("last 1 1 1"), (x, w) -> x.corner(0, w), 0, 1, 2, 3, 4);
  }

  private static void keepsRefused() {
    e.of("keeps: BAD.");
    noValley("keeps", (x, v) -> x.keeps(v, 0, 1));
    bad("foot", (x, f) -> x.keeps(0, f, 1), -1, 2, 12, MIN, MAX);
    bad("foot of valley 1", (x, f) -> x.keeps(1, f, 1), 1);
    bad("n", (x, n) -> x.keeps(0, 0, n), 0, -1, 10, MIN, MAX);
  }

  private static void lendRefused() {
    e.of("lend: BAD: one and itself, too.");
    bad("the first", (x, v) -> x.lend(v, 0, 0, 0), NO_VALLEY);
    bad("the other", (x, v) -> x.lend(0, v, 0, 0), NO_VALLEY);
    bad("one and itself", (x, v) -> x.lend(v, v, 0, 0), 0, 1, 2, -1);
    bad("set of valley 0", (x, set) -> x.lend(0, 1, set, 0), -1, 4, MIN, MAX);
    bad("set of valley 1", (x, set) -> x.lend(0, 1, 0, set), -1, 2, 3, MIN, MAX);
    bad("set of valley 1, the other way", (x, set) -> x.lend(1, 0, set, 0), -1, 2, 3, MIN, MAX);
    bad("set of valley 0, the other way", (x, set) -> x.lend(1, 0, 0, set), -1, 4, MIN, MAX);
    NineLasts x = Edge.rich();
    e.due("all lasts of both", x.lend(0, 1, 3, 1) >= 0 ? 1 : 0, 1);
  }

  private static void goingRefused() {
    e.of("step: BAD; STUCK: none is under way, it is done. search: BAD; STUCK: none is under way.");
    Supplier<NineLasts> none = () -> Edge.with("foot 1 1 1;last 1 1 1");
    Supplier<NineLasts> done = () -> {
      NineLasts x = Edge.with("foot 1 1 1;last 1 1 1");
      x.begin(0, 1);
      x.step(2);
      return x;
    };
    bad("step", (x, k) -> x.step(k), 0, -1, 1000, MIN, MAX);
    e.badFor("step, ahead of STUCK: none", none, (x, k) -> x.step(k), 0, -1, 1000, MIN, MAX);
    e.badFor("step, ahead of STUCK: done", done, (x, k) -> x.step(k), 0, -1, 1000, MIN, MAX);
    bad("search", (x, w) -> x.search(w), -1, 5, MIN, MAX);
    e.badFor("search, ahead of STUCK", none, (x, w) -> x.search(w), -1, 5, MIN, MAX);
    e.badFor("search when it is done", done, (x, w) -> x.search(w), -1, 5);
    e.stuck("step: none", none, x -> x.step(1));
    e.stuck("step: done", done, x -> x.step(999));
    e.stuck("search: none", none, x -> x.search(4));
  }

  private static void backRefused() {
    e.of("back: STUCK: nothing was.");
    e.stuck("nothing was kept", () -> Edge.with("foot 1 1 1;last 1 1 1", "out 5"), x -> x.back());
    e.stuck("a new object", NineLasts::new, x -> x.back());
  }

  private static void neverRefused() {
    e.of("element, holds, image, status: (no refusals)");
    NineLasts x = Edge.rich();
    int[] before = new int[5];
    for (int i = 0; i < 5; i++) before[i] = x.status(12 + i);
    for (int n : new int[] {-1, 8, 40, MIN, MAX}) {
      x.element(n, 0);
      x.element(0, n);
      x.holds(n);
      e.due("status(" + n + ")", x.status(n), -1);
    }
    x.image();
    for (int i = 0; i < 5; i++) e.due("status(" + (12 + i) + ")", x.status(12 + i), before[i]);
  }

  private static void howMany() {
    e.of("nothing changes but how many there were");
    NineLasts x = Edge.tenLasts();
    x.row(0, 0, 0);
    for (int round = 1; round <= 20; round++) {
      e.due("BAD", x.row(8, 0, 0), -2);
      if (round % 2 == 0) e.due("OTHER", x.says(0, 0), -3);
      if (round % 3 == 0) e.due("NOTHING", x.says(1, 0), -4);
      if (round % 4 == 0) e.due("STUCK", x.back(), -5);
      if (round % 5 == 0) e.due("FULL", x.build(0, 1, 1), -6);
    }
    int[] told = {20, 10, 6, 5, 4};
    for (int i = 0; i < 5; i++) e.due("status(" + (12 + i) + ")", x.status(12 + i), told[i]);
  }

  public static void main(String[] args) {
    rowRefused();
    setRefused();
    copyRefused();
    copyOthersRefused();
    toolRefused();
    saysRefused();
    triesRefused();
    shoesRefused();
    feedRefused();
    wipeIsNeverRefused();
    readersRefused();
    feetRefused();
    alterRefused();
    carveRefused();
    buildRefused();
    valleyAlone();
    doesRefused();
    setsRefused();
    judgeRefused();
    countsRefused();
    lineRefused();
    cornerRefused();
    keepsRefused();
    lendRefused();
    goingRefused();
    backRefused();
    neverRefused();
    howMany();
    e.end("RefusalTest");
  }
}
