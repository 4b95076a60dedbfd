/** Promises 1 to 10 and 47: a new object, shelves, rows, tools, status. */
public final class ShelfTest {
  private static final Checks c = new Checks();
  private static final int MIN = Integer.MIN_VALUE, MAX = Integer.MAX_VALUE;

  static final String VALE = "foot 10 5 4 times 3;foot 12 5 5 give 2;foot 20 9 9;last 12 6 5 price 4;"
      + "last 10 5 4;last 11 5 5 price 2;waste 1 2 3;over 3 3 3;out 20;grow 2";

  private static void newObject() {
    NineLasts x = new NineLasts();
    for (int s = -1; s < 9; s++) c.due("new holds(" + s + ")", x.holds(s), -1);
    c.due("new status(0)", x.status(0), 0);
    c.due("new status(1)", x.status(1), 0);
    c.due("new status(2)", x.status(2), 0);
    for (int i = 12; i <= 16; i++) c.due("new status(" + i + ")", x.status(i), 0);
    c.due("new wipe()", x.wipe(), 0);
    c.bad(x, "new valleyOf(0, 0)", () -> x.valleyOf(0, 0));
    c.stuck(x, "new search(0)", () -> x.search(0));
    c.stuck(x, "new back()", () -> x.back());
  }

  private static void rows() {
    NineLasts x = new NineLasts();
    for (int sort = 0; sort <= 4; sort++) {
      c.due("row", x.row(sort, sort, 40), 1);
      c.due("holds", x.holds(sort), sort);
    }
    c.due("row of none", x.row(7, 2, 0), 1);
    c.due("status(2)", x.status(2), 6);
    c.due("set", x.set(3, 39, 5), 1);
    c.due("the last element", x.element(3, 39), 5);
    c.due("behind the last element", x.element(3, 40), 0);
    c.bad(x, "set behind the last element", () -> x.set(3, 40, 1));
    c.due("row anew", x.row(3, 3, 40), 1);
    c.due("a new row's element", x.element(3, 39), 0);
    int[][] wrong = {{-1, 0, 0}, {8, 0, 0}, {0, -1, 0}, {0, 5, 0}, {0, 0, -1}, {0, 0, 41},
      {MIN, 0, 0}, {MAX, 0, 0}, {0, MIN, 0}, {0, MAX, 0}, {0, 0, MIN}, {0, 0, MAX}};
    for (int[] w : wrong) c.bad(x, "row " + w[0] + " " + w[1] + " " + w[2], () -> x.row(w[0], w[1], w[2]));
    x.tool(0, 2, 1, 1);
    c.due("a row in a tool's place", x.row(0, 1, 3), 1);
    c.due("holds", x.holds(0), 1);
  }

  private static void sets() {
    NineLasts x = new NineLasts();
    long v = 0x1234_5678_9abc_def0L | 0xffL;
    long[] due = {(byte) v, (short) v, (int) v, v, 1};
    for (int sort = 0; sort <= 4; sort++) {
      x.row(sort, sort, 3);
      c.due("set", x.set(sort, 1, v), 1);
      c.due("element of sort " + sort, x.element(sort, 1), due[sort]);
      c.due("beside it", x.element(sort, 0) + x.element(sort, 2), 0);
    }
    c.due("a byte of 200", x.set(0, 0, 200), 1);
    c.due("a byte of 200", x.element(0, 0), -56);
    c.due("a byte of 256", x.set(0, 0, 256), 1);
    c.due("a byte of 256", x.element(0, 0), 0);
    c.due("a short of 40000", x.set(1, 0, 40000), 1);
    c.due("a short of 40000", x.element(1, 0), 40000 - 65536);
    c.due("an int of 2^32", x.set(2, 0, 1L << 32), 1);
    c.due("an int of 2^32", x.element(2, 0), 0);
    c.due("a boolean of 2^32", x.set(4, 0, 1L << 32), 1);
    c.due("a boolean of 2^32", x.element(4, 0), 1);
    c.due("a boolean of 0", x.set(4, 0, 0), 1);
    c.due("a boolean of 0", x.element(4, 0), 0);
    x.tool(5, 1, 0, 0);
    c.bad(x, "set no shelf", () -> x.set(8, 0, 1));
    c.bad(x, "set no shelf", () -> x.set(MIN, 0, 1));
    c.other(x, "set a tool, and a wrong i", () -> x.set(5, -1, 1));
    c.nothing(x, "set nothing, and a wrong i", () -> x.set(6, -1, 1));
    c.bad(x, "set i -1", () -> x.set(0, -1, 1));
    c.bad(x, "set i 3", () -> x.set(0, 3, 1));
    c.bad(x, "set i MAX", () -> x.set(0, MAX, 1));
    c.due("element no shelf", x.element(-1, 0) + x.element(8, 0) + x.element(MAX, 0), 0);
    c.due("element of a tool, of nothing", x.element(5, 0) + x.element(6, 0), 0);
    c.due("element that isn't there", x.element(3, -1) + x.element(3, 3) + x.element(3, MIN), 0);
    x.row(3, 3, 1);
    c.due("an element that was once", x.element(3, 1), 0);
    c.due("nothing was refused by element", x.status(12), 5);
  }

  private static void copies() {
    NineLasts x = new NineLasts();
    Checks.fill(x, 0, 2, 1, 2, 3, 4, 5);
    Checks.fill(x, 1, 2, 9, 9, 9);
    Checks.fill(x, 2, 3, 7, 7, 7);
    x.tool(3, 1, 0, 0);
    c.due("copy", x.copy(0, 1, 2, 1, 2), 2);
    c.due("copied", x.element(1, 0) * 100 + x.element(1, 1) * 10 + x.element(1, 2), 934);
    c.due("copy upon itself, up", x.copy(0, 0, 0, 1, 4), 4);
    c.due("as they were", x.element(0, 1) * 1000 + x.element(0, 2) * 100 + x.element(0, 3) * 10 + x.element(0, 4), 1234);
    c.due("copy upon itself, down", x.copy(0, 0, 1, 0, 4), 4);
    c.due("as they were", x.element(0, 0) * 1000 + x.element(0, 1) * 100 + x.element(0, 2) * 10 + x.element(0, 3), 1234);
    c.due("copy none at the ends", x.copy(0, 1, 5, 3, 0), 0);
    c.due("copy all", x.copy(1, 0, 0, 2, 3), 3);
    c.bad(x, "copy no shelf, a tool", () -> x.copy(8, 3, 0, 0, 1));
    c.bad(x, "copy a tool, no shelf", () -> x.copy(3, -1, 0, 0, 1));
    c.other(x, "copy a tool to nothing", () -> x.copy(3, 7, 0, 0, 1));
    c.other(x, "copy nothing to a tool", () -> x.copy(7, 3, 0, 0, 1));
    c.other(x, "copy of two sorts, n wrong", () -> x.copy(0, 2, 0, 0, -1));
    c.nothing(x, "copy to nothing, n wrong", () -> x.copy(0, 7, 0, 0, -1));
    c.nothing(x, "copy of nothing", () -> x.copy(7, 2, 0, 0, 1));
    c.nothing(x, "copy nothing to nothing", () -> x.copy(6, 7, 0, 0, 1));
    int[][] wrong = {{-1, 0, 1}, {0, -1, 1}, {0, 0, -1}, {5, 0, 1}, {0, 3, 1}, {0, 0, 4}, {3, 0, 3}, {0, 1, 3},
      {MAX, 0, 1}, {0, MAX, 1}, {0, 0, MAX}, {1, 1, MAX}, {6, 0, 0}, {0, 4, 0}, {MIN, 0, 0}, {0, 0, MIN}};
    for (int[] w : wrong)
      c.bad(x, "copy " + w[0] + " " + w[1] + " " + w[2], () -> x.copy(0, 1, w[0], w[1], w[2]));
  }

  private static void tools() {
    NineLasts x = new NineLasts();
    for (int kind = 1; kind <= 5; kind++) {
      c.due("tool", x.tool(kind, kind, 9, 30 - kind), 1);
      c.due("holds", x.holds(kind), 10 + kind);
      c.due("says TOOL", x.says(kind, 0), 9);
    }
    c.due("status(2)", x.status(2), 5);
    c.due("MADE as MADE", x.says(1, 1), 1);
    c.due("BUILT as MADE", x.says(2, 1), 2);
    c.due("PAIR as MADE", x.says(4, 1), 3);
    c.due("GROWN as MADE", x.says(5, 1), 4);
    for (int kind = 2; kind <= 5; kind++) c.due("says its a", x.says(kind, kind), 30 - kind);
    c.other(x, "OWN as MADE", () -> x.says(3, 1));
    int[][] apart = {{1, 2}, {1, 3}, {1, 4}, {1, 5}, {2, 3}, {2, 4}, {2, 5}, {3, 2}, {3, 4}, {3, 5},
      {4, 2}, {4, 3}, {4, 5}, {5, 2}, {5, 3}, {5, 4}};
    for (int[] a : apart) c.other(x, "says " + a[0] + " as " + a[1], () -> x.says(a[0], a[1]));
    x.row(0, 0, 2);
    c.other(x, "a row says", () -> x.says(0, 0));
    c.nothing(x, "nothing says", () -> x.says(7, 2));
    c.bad(x, "says no shelf", () -> x.says(8, 0));
    c.bad(x, "says no kind, a row", () -> x.says(0, 6));
    c.bad(x, "says no kind, nothing", () -> x.says(7, -1));
    int[][] wrong = {{-1, 1, 0, 0}, {8, 1, 0, 0}, {0, 0, 0, 0}, {0, 6, 0, 0}, {0, 1, -1, 0}, {0, 1, 10, 0},
      {0, 1, 0, -1}, {0, 1, 0, 31}, {MIN, 1, 0, 0}, {0, MAX, 0, 0}, {0, 1, MAX, 0}, {0, 1, 0, MIN}};
    for (int[] w : wrong) c.bad(x, "tool " + java.util.Arrays.toString(w), () -> x.tool(w[0], w[1], w[2], w[3]));
    c.due("a tool in a row's place", x.tool(0, 4, 0, 0), 1);
    c.due("holds", x.holds(0), 14);
    c.due("no elements then", x.element(0, 0), 0);
    c.due("tool anew", x.tool(0, 3, 1, 2), 1);
    c.due("holds", x.holds(0), 13);
    c.due("its last", x.says(0, 0), 1);
  }

  private static void tried(NineLasts x, int kind, int last, int a, int... due) {
    x.tool(0, kind, last, a);
    int bits = 0;
    for (int f = 0; f < due.length; f++) {
      c.due("tries of " + kind + " last " + last + " a " + a + " foot " + f, x.tries(0, f, 0), due[f]);
      if (due[f] >= 0) bits |= 1 << f;
    }
    c.due("shoes of " + kind + " last " + last + " a " + a, x.shoes(0, 0), bits);
  }

  private static void tries() {
    NineLasts x = Checks.with(VALE);
    tried(x, 1, 0, 5, 7, 2, -1);
    tried(x, 1, 1, 0, 0, 0, -1);
    tried(x, 2, 1, 0, 0, 0, -1);
    tried(x, 2, 1, 1, 6, 2, -1);
    tried(x, 2, 1, 2, 13, 8, -1);
    tried(x, 2, 1, 3, 19, 14, -1);
    tried(x, 2, 1, 4, -1, -1, -1);
    tried(x, 3, 0, 2, -1, -1, 0);
    tried(x, 3, 0, 0, 0, -1, -1);
    tried(x, 3, 0, 3, -1, -1, -1);
    tried(x, 3, 0, 30, -1, -1, -1);
    tried(x, 4, 0, 0, 14, 4, -1);
    tried(x, 4, 0, 1, -1, 4, -1);
    tried(x, 4, 2, 1, 8, 0, -1);
    tried(x, 4, 0, 30, 14, 4, -1);
    tried(x, 5, 0, 0, 7, 2, -1);
    tried(x, 5, 0, 1, 3, 0, -1);
    tried(x, 5, 0, 2, -1, -1, -1);
    NineLasts y = Checks.with("foot 10 5 4;last 13 6 4;grow 3;waste 1 1 1");
    tried(y, 5, 0, 1, 0);
    NineLasts z = Checks.with("foot 30 5 4;last 39 9 4;grow 9");
    tried(z, 5, 0, 1, 0);
    // A foot that gives: every tool may be above it by just over, as the last itself may.
    NineLasts gives = Checks.with("foot 10 5 5 give 2;last 13 8 8;last 12 7 7;last 11 8 8;over 3 3 3;grow 2");
    tried(gives, 1, 0, 0, 9);
    tried(gives, 2, 0, 1, -1);
    tried(gives, 2, 1, 1, 9);
    tried(gives, 2, 1, 2, -1);
    tried(gives, 4, 0, 0, 18);
    tried(gives, 4, 0, 1, -1);
    tried(gives, 4, 2, 1, 14);
    gives.carve(0, 0, 0, 15);
    gives.carve(0, 0, 1, 9);
    tried(gives, 1, 0, 0, -1);
    tried(gives, 5, 0, 1, 9);
    gives.carve(0, 0, 0, 16);
    tried(gives, 5, 0, 1, -1);
    NineLasts far = Checks.with("foot 30 30 30 ;last 40 40 40;over 30 30 30;waste 9 9 9");
    tried(far, 2, 0, 20, 3 * 9 * 30 + 10);
    tried(far, 2, 0, 21, -1);
  }

  private static void triesRefused() {
    NineLasts x = Checks.with(VALE);
    x.tool(0, 1, 3, 0);
    x.row(1, 2, 4);
    x.tool(3, 3, 9, 0);
    c.bad(x, "tries no valley", () -> x.tries(1, 0, 0));
    c.bad(x, "tries no foot", () -> x.tries(0, 3, 0));
    c.bad(x, "tries no foot, a row", () -> x.tries(0, -1, 1));
    c.bad(x, "tries no shelf", () -> x.tries(0, 0, 8));
    c.other(x, "tries a row", () -> x.tries(0, 0, 1));
    c.nothing(x, "tries nothing", () -> x.tries(0, 0, 2));
    c.stuck(x, "tries with no such last", () -> x.tries(0, 0, 0));
    c.stuck(x, "OWN with no such last", () -> x.tries(0, 0, 3));
    c.bad(x, "shoes no valley", () -> x.shoes(-1, 1));
    c.bad(x, "shoes no shelf", () -> x.shoes(0, -1));
    c.other(x, "shoes of a row", () -> x.shoes(0, 1));
    c.nothing(x, "shoes of nothing", () -> x.shoes(0, 2));
    c.stuck(x, "shoes with no such last", () -> x.shoes(0, 0));
  }

  private static void status() {
    NineLasts x = Checks.with("out 1", "out 2");
    Checks.tell(x, "abcde");
    x.row(0, 0, 0);
    x.tool(7, 1, 0, 0);
    c.due("status(0)", x.status(0), 2);
    c.due("status(1)", x.status(1), 5);
    c.due("status(2)", x.status(2), 2);
    x.row(8, 0, 0);
    x.set(7, 0, 0);
    x.set(7, 0, 0);
    x.set(1, 0, 0);
    x.back();
    x.back();
    x.back();
    Checks.tell(x, "a".repeat(244));
    x.feed(0, 2);
    int[] due = {1, 2, 1, 3, 1};
    for (int i = 0; i < 5; i++) c.due("status(" + (12 + i) + ")", x.status(12 + i), due[i]);
    for (int what : new int[] {-1, 3, 10, 11, 17, MIN, MAX}) c.due("status(" + what + ")", x.status(what), -1);
    c.due("status refuses nothing", x.status(12), 1);
  }

  public static void main(String[] args) {
    newObject();
    rows();
    sets();
    copies();
    tools();
    tries();
    triesRefused();
    status();
    c.end("ShelfTest");
  }
}
