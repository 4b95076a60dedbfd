/** The boundary cases of section 3 (shelves, rows, tools) and of promises 1 to 10 and 47, where they are not refusals. */
public final class ShelfEdgeTest {
  private static final Edge e = new Edge();
  private static final int MIN = Edge.MIN, MAX = Edge.MAX;

  private static void newObject() {
    e.of("No VALLEYS; SHELVES hold NOTHING; THE TAPE is empty.");
    NineLasts x = new NineLasts();
    for (int what : new int[] {0, 1, 2, 12, 13, 14, 15, 16}) e.due("status(" + what + ")", x.status(what), 0);
    for (int s = 0; s < 8; s++) e.due("holds(" + s + ")", x.holds(s), -1);
    e.due("wipe()", x.wipe(), 0);
    e.due("valley() of an empty tape", x.valley(), -20);
    e.bad("valleyOf(0, 0)", NineLasts::new, y -> y.valleyOf(0, 0));
    Edge.rich();
    e.due("another object's valleys", new NineLasts().status(0), 0);
  }

  private static void fiveHundredAndTwelve() {
    e.of("An object is used for at most 512 calls after it has been made");
    NineLasts x = new NineLasts();
    for (int i = 0; i < 510; i++) x.row(8, 0, 0);
    e.due("call 511", x.status(12), 510);
    e.due("call 512", x.row(7, 4, 40), 1);
  }

  private static void eightShelves() {
    e.of("SHELVES 0 to 7");
    NineLasts x = new NineLasts();
    for (int s = 0; s < 8; s++) {
      e.due("row in " + s, x.row(s, s % 5, s), 1);
      e.due("how many hold something", x.status(2), s + 1);
    }
    for (int s = 0; s < 8; s++) e.due("holds(" + s + ")", x.holds(s), s % 5);
    for (int s = 0; s < 8; s++) e.due("tool in " + s, x.tool(s, 1 + s % 5, s, s), 1);
    for (int s = 0; s < 8; s++) e.due("its last", x.says(s, 0), s);
    e.due("how many hold something", x.status(2), 8);
    e.badBeyond("row in", Edge::rich, 0, 7, (y, s) -> y.row(s, 0, 1));
    e.badBeyond("tool in", Edge::rich, 0, 7, (y, s) -> y.tool(s, 1, 0, 0));
  }

  private static void oneThingEach() {
    e.of("hold NOTHING (at first), a ROW, or a TOOL");
    NineLasts x = new NineLasts();
    e.due("nothing", x.holds(4), -1);
    x.row(4, 3, 2);
    x.set(4, 1, 6);
    e.due("a row", x.holds(4), 3);
    x.tool(4, 2, 1, 1);
    e.due("a tool in its place", x.holds(4), 12);
    e.due("no element then", x.element(4, 1), 0);
    x.row(4, 3, 2);
    e.due("a row again", x.holds(4), 3);
    e.due("a new one", x.element(4, 1), 0);
    e.due("one shelf", x.status(2), 1);
  }

  private static void fiveSorts() {
    e.of("A ROW has a SORT (0 bytes, 1 shorts, 2 ints, 3 longs, 4 booleans)");
    NineLasts x = new NineLasts();
    for (int sort = 0; sort <= 4; sort++) {
      e.due("row of sort " + sort, x.row(0, sort, 1), 1);
      e.due("holds", x.holds(0), sort);
      x.set(0, 0, 0x7_8000_8081L);
      long[] due = {-127, -32639, -2147450751, 0x7_8000_8081L, 1};
      e.due("kept by sort " + sort, x.element(0, 0), due[sort]);
    }
    e.badBeyond("row of sort", Edge::rich, 0, 4, (y, sort) -> y.row(0, sort, 1));
  }

  private static void fortyElements() {
    e.of("0 to 40 elements");
    for (int n : new int[] {0, 1, 39, 40}) {
      NineLasts x = new NineLasts();
      e.due("row of " + n, x.row(0, 2, n), 1);
      for (int i = 0; i < n; i++) e.due("set " + i, x.set(0, i, 100 + i), 1);
      for (int i = 0; i < n; i++) e.due("element " + i, x.element(0, i), 100 + i);
      e.due("element behind", x.element(0, n), 0);
      e.due("set behind", x.set(0, n, 1), -2);
    }
    e.badBeyond("row of", Edge::rich, 0, 40, (y, n) -> y.row(0, 0, n));
  }

  private static void zeroAtFirst() {
    e.of("(0, or not so, at first)");
    for (int sort = 0; sort <= 4; sort++) {
      NineLasts x = new NineLasts();
      x.row(0, sort, 40);
      for (int i = 0; i < 40; i++) x.set(0, i, -1);
      x.row(0, sort, 40);
      for (int i = 0; i < 40; i++) e.due("element " + i + " of sort " + sort, x.element(0, i), 0);
      x.row(0, sort, 1);
      x.row(0, sort, 40);
      e.due("of a row that was shorter", x.element(0, 39), 0);
    }
  }

  /** What is put in, and what is kept of it. */
  private static void kept(int sort, long... pairs) {
    NineLasts x = new NineLasts();
    x.row(0, sort, 40);
    for (int i = 0; i < pairs.length; i += 2) {
      e.due("set " + pairs[i], x.set(0, i, pairs[i]), 1);
      e.due("what is kept of " + pairs[i], x.element(0, i), pairs[i + 1]);
      e.due("beside it", x.element(0, i + 1), 0);
    }
  }

  private static void lowestBits() {
    e.of("what is put in keeps its lowest bits");
    kept(0, 127, 127, 128, -128, 255, -1, 256, 0, 257, 1, -128, -128, -129, 127, -256, 0, 1L << 40, 0,
        Long.MAX_VALUE, -1, Long.MIN_VALUE, 0);
    kept(1, 32767, 32767, 32768, -32768, 65535, -1, 65536, 0, 65537, 1, -32768, -32768, -32769, 32767, -65536, 0,
        Long.MAX_VALUE, -1, Long.MIN_VALUE, 0);
    kept(2, MAX, MAX, 1L << 31, MIN, (1L << 32) - 1, -1, 1L << 32, 0, (1L << 32) + 1, 1, MIN, MIN, MIN - 1L, MAX,
        Long.MAX_VALUE, -1, Long.MIN_VALUE, 0);
    kept(3, Long.MAX_VALUE, Long.MAX_VALUE, Long.MIN_VALUE, Long.MIN_VALUE, 1L << 32, 1L << 32, -1, -1);
  }

  private static void booleans() {
    e.of("(of booleans: whether it is not 0); told they are numbers (1, 0)");
    kept(4, 0, 0, 1, 1, -1, 1, 2, 1, 256, 1, 65536, 1, 1L << 32, 1, Long.MIN_VALUE, 1, Long.MAX_VALUE, 1);
    NineLasts x = new NineLasts();
    x.row(0, 4, 1);
    x.set(0, 0, 5);
    x.set(0, 0, 0);
    e.due("not so again", x.element(0, 0), 0);
  }

  private static void setOne() {
    e.of("Element i of the ROW in SHELF s becomes v: 1.");
    NineLasts x = new NineLasts();
    x.row(7, 3, 40);
    x.row(0, 3, 40);
    e.due("the first", x.set(7, 0, Long.MIN_VALUE), 1);
    e.due("the last", x.set(7, 39, Long.MAX_VALUE), 1);
    e.due("element 0", x.element(7, 0), Long.MIN_VALUE);
    e.due("element 39", x.element(7, 39), Long.MAX_VALUE);
    for (int i = 1; i < 39; i++) e.due("element " + i, x.element(7, i), 0);
    e.due("another shelf's", x.element(0, 0) + x.element(0, 39), 0);
  }

  private static void rowIs(String call, NineLasts x, int s, long... due) {
    for (int i = 0; i < due.length; i++) e.due(call + ": element " + i + " of " + s, x.element(s, i), due[i]);
  }

  private static NineLasts rows() {
    NineLasts x = new NineLasts();
    Checks.fill(x, 0, 2, 1, 2, 3, 4, 5);
    Checks.fill(x, 7, 2, 6, 7, 8);
    return x;
  }

  private static void copyToTheEnds() {
    e.of("n elements of the ROW in SHELF p from place i on come to places j on of that in q");
    NineLasts x = rows();
    e.due("up to both ends", x.copy(0, 7, 3, 1, 2), 2);
    rowIs("up to both ends", x, 7, 6, 4, 5);
    rowIs("what they came from", x, 0, 1, 2, 3, 4, 5);
    NineLasts y = rows();
    e.due("a whole row", y.copy(7, 0, 0, 2, 3), 3);
    rowIs("a whole row", y, 0, 1, 2, 6, 7, 8);
    e.due("from the first to the first", y.copy(0, 7, 0, 0, 1), 1);
    rowIs("one", y, 7, 1, 7, 8);
    NineLasts z = new NineLasts();
    z.row(0, 4, 40);
    z.row(1, 4, 40);
    for (int i = 0; i < 40; i++) z.set(0, i, 1);
    e.due("forty", z.copy(0, 1, 0, 0, 40), 40);
    for (int i = 0; i < 40; i++) e.due("the forty", z.element(1, i), 1);
  }

  private static void copyNone() {
    e.of("n elements .. come to places j on: n (none, as they are asked for)");
    NineLasts x = rows();
    e.due("none", x.copy(0, 7, 0, 0, 0), 0);
    e.due("none at the ends", x.copy(0, 7, 5, 3, 0), 0);
    x.row(1, 2, 0);
    e.due("none of an empty row", x.copy(1, 7, 0, 3, 0), 0);
    e.due("none to an empty row", x.copy(7, 1, 3, 0, 0), 0);
    rowIs("none came", x, 7, 6, 7, 8);
    e.due("nothing was refused", x.status(12), 0);
  }

  private static void copyAsTheyWere() {
    e.of("(as they were)");
    NineLasts up = rows();
    e.due("up", up.copy(0, 0, 0, 1, 4), 4);
    rowIs("up", up, 0, 1, 1, 2, 3, 4);
    NineLasts down = rows();
    e.due("down", down.copy(0, 0, 1, 0, 4), 4);
    rowIs("down", down, 0, 2, 3, 4, 5, 5);
    NineLasts far = rows();
    e.due("by two", far.copy(0, 0, 0, 2, 3), 3);
    rowIs("by two", far, 0, 1, 2, 1, 2, 3);
    e.due("upon itself", far.copy(0, 0, 0, 0, 5), 5);
    rowIs("upon itself", far, 0, 1, 2, 1, 2, 3);
    for (int sort = 0; sort <= 4; sort++) {
      NineLasts x = new NineLasts();
      Checks.fill(x, 0, sort, -1, 0);
      x.row(1, sort, 2);
      x.copy(0, 1, 0, 0, 2);
      rowIs("of sort " + sort, x, 1, sort == 4 ? 1 : -1, 0);
    }
  }

  private static void elementIsNeverRefused() {
    e.of("Element i of the ROW; 0: none, no ROW (nothing is refused).");
    NineLasts x = new NineLasts();
    Checks.fill(x, 0, 2, 5, 6);
    x.tool(1, 2, 3, 4);
    e.due("the first", x.element(0, 0), 5);
    e.due("the last", x.element(0, 1), 6);
    for (int i : new int[] {-1, 2, 40, MIN, MAX}) e.due("element(0, " + i + ")", x.element(0, i), 0);
    for (int i : new int[] {0, 1, 39}) {
      e.due("of a tool", x.element(1, i), 0);
      e.due("of nothing", x.element(2, i), 0);
    }
    for (int s : new int[] {-1, 8, MIN, MAX}) e.due("element(" + s + ", 0)", x.element(s, 0), 0);
    x.row(0, 2, 1);
    e.due("an element that a row had that was longer", x.element(0, 1), 0);
    for (int w = 12; w <= 16; w++) e.due("status(" + w + ")", x.status(w), 0);
  }

  private static void holdsWhat() {
    e.of("NONE NOTHING, no SHELF; 0 to 4 a ROW by its SORT; 10 and the KIND of a TOOL.");
    NineLasts x = new NineLasts();
    for (int s : new int[] {0, 7, -1, 8, MIN, MAX}) e.due("holds(" + s + ")", x.holds(s), -1);
    for (int sort = 0; sort <= 4; sort++) {
      x.row(7, sort, 0);
      e.due("an empty row of sort " + sort, x.holds(7), sort);
    }
    for (int kind = 1; kind <= 5; kind++) {
      x.tool(7, kind, 0, 0);
      e.due("a tool of kind " + kind, x.holds(7), 10 + kind);
    }
    for (int w = 12; w <= 16; w++) e.due("nothing is refused: status(" + w + ")", x.status(w), 0);
  }

  private static void toolsOfAllNumbers() {
    e.of("SHELF s holds a TOOL of a KIND (1 to 5) with a LAST (0 to 9) and a (0 to 30): 1.");
    NineLasts x = new NineLasts();
    for (int kind = 1; kind <= 5; kind++)
      for (int last : new int[] {0, 9})
        for (int a : new int[] {0, 30}) {
          e.due("tool " + kind + " " + last + " " + a, x.tool(0, kind, last, a), 1);
          e.due("holds", x.holds(0), 10 + kind);
          e.due("its last", x.says(0, 0), last);
          if (kind > 1) e.due("its a", x.says(0, kind), a);
        }
    e.badBeyond("tool of kind", Edge::rich, 1, 5, (y, kind) -> y.tool(0, kind, 0, 0));
    e.badBeyond("tool of last", Edge::rich, 0, 9, (y, last) -> y.tool(0, 1, last, 0));
    e.badBeyond("tool with a", Edge::rich, 0, 30, (y, a) -> y.tool(0, 1, 0, a));
  }

  private static void saysByKind() {
    e.of("TOOL its LAST; MADE 1 (of BUILT 2, PAIR 3, GROWN 4); BUILT, OWN, PAIR, GROWN a.");
    int o = -3;
    // Row by row the kind of the tool, 1 to 5; then what it is taken for, 0 to 5.
    int[][] due = {{7, 1, o, o, o, o}, {7, 2, 19, o, o, o}, {7, o, o, 19, o, o}, {7, 3, o, o, 19, o}, {7, 4, o, o, o, 19}};
    for (int kind = 1; kind <= 5; kind++)
      for (int as = 0; as <= 5; as++) {
        NineLasts x = new NineLasts();
        x.tool(2, kind, 7, 19);
        e.due("says of " + kind + " as " + as, x.says(2, as), due[kind - 1][as]);
      }
  }

  /** BADNESS of a tool for foot 0 of valley 0, and the bits of it. */
  private static void tries(NineLasts x, int kind, int last, int a, int due) {
    String what = "kind " + kind + " last " + last + " a " + a;
    e.due("tool " + what, x.tool(0, kind, last, a), 1);
    e.due("tries " + what, x.tries(0, 0, 0), due);
    e.due("shoes " + what, x.shoes(0, 0), due >= 0 ? 1 : 0);
  }

  private static void madeIsTheLast() {
    e.of("TOOL, MADE: as the LAST");
    NineLasts x = Edge.with("foot 10 10 10 give 1;last 9 9 9;last 12 12 12;last 8 9 9;last 13 12 12;over 2 2 2;waste 1 2 3");
    int[] due = {0, 12, -1, -1};
    for (int last = 0; last < 4; last++)
      for (int a : new int[] {0, 1, 30}) tries(x, 1, last, a, due[last]);
  }

  private static void builtUp() {
    e.of("BUILT: as if the LAST had a more in each measure");
    NineLasts x = Edge.with("foot 10 10 10;last 9 9 9;last 10 10 9;last 9 10 10;last 10 9 10;last 40 40 40;last 0 0 0;"
        + "over 3 4 5;waste 0 0 0");
    tries(x, 2, 0, 0, -1);
    tries(x, 2, 0, 1, 0);
    for (int last = 1; last <= 3; last++) tries(x, 2, last, 0, -1);
    for (int last = 1; last <= 3; last++) tries(x, 2, last, 1, 0);
    tries(x, 2, 0, 4, 2);
    tries(x, 2, 0, 5, -1);
    tries(x, 2, 1, 3, 1);
    tries(x, 2, 1, 4, -1);
    tries(x, 2, 5, 9, -1);
    tries(x, 2, 5, 10, 5);
    tries(x, 2, 5, 13, 6);
    tries(x, 2, 5, 14, -1);
    tries(x, 2, 4, 30, -1);
    NineLasts wide = Edge.with("foot 30 30 30;last 40 40 40;over 30 30 30;waste 9 9 9");
    tries(wide, 2, 0, 20, 3 * 9 * 30 + 10);
    tries(wide, 2, 0, 21, -1);
    NineLasts b = Edge.with("foot 10 10 10;last 10 12 10;last 10 10 13;over 9 2 3");
    tries(b, 2, 0, 0, 2);
    tries(b, 2, 0, 1, -1);
    tries(b, 2, 1, 0, 3);
    tries(b, 2, 1, 1, -1);
    NineLasts gives = Edge.with("foot 10 10 10 give 3;last 5 5 5");
    tries(gives, 2, 0, 1, -1);
    tries(gives, 2, 0, 2, 1);
    tries(gives, 2, 0, 5, 2);
    tries(gives, 2, 0, 6, 6);
  }

  private static void builtCosts() {
    e.of("BADNESS 1 more for each 2 of a (cut)");
    NineLasts x = Edge.with("foot 20 20 20;last 20 20 20;over 30 30 30;waste 0 0 0");
    int[] as = {0, 1, 2, 3, 4, 29, 30};
    int[] due = {0, 0, 1, 1, 2, 14, 15};
    for (int i = 0; i < as.length; i++) tries(x, 2, 0, as[i], due[i]);
    NineLasts wastes = Edge.with("foot 20 20 20;last 20 20 20;over 30 30 30;waste 1 2 3");
    tries(wastes, 2, 0, 3, 6 * 3 + 1);
  }

  private static void ownAlone() {
    e.of("OWN: it DOES for FOOT a alone, BADNESS 0");
    NineLasts x = Edge.with("last 40 40 40;last 2 2 2;foot 1 1 1;foot 2 2 2;waste 9 9 9;over 0 0 0");
    x.tool(0, 3, 0, 1);
    e.due("foot 1, for which the last is far too big", x.tries(0, 1, 0), 0);
    e.due("another foot", x.tries(0, 0, 0), -1);
    e.due("bits", x.shoes(0, 0), 2);
    x.tool(0, 3, 1, 0);
    e.due("the first foot", x.tries(0, 0, 0), 0);
    e.due("another foot, that the last does for", x.tries(0, 1, 0), -1);
    e.due("bits", x.shoes(0, 0), 1);
    for (int a : new int[] {2, 11, 30}) {
      x.tool(0, 3, 0, a);
      e.due("no such foot", x.shoes(0, 0), 0);
      e.due("no such foot", x.tries(0, 0, 0), -1);
    }
    NineLasts y = Edge.with("last 40 40 40;foot 0 0 0;foot 0 0 0");
    Checks.fill(y, 1, 0, Edge.row(2, 10));
    y.feet(0, 1);
    y.tool(0, 3, 0, 11);
    e.due("the twelfth foot", y.tries(0, 11, 0), 0);
    e.due("its bit", y.shoes(0, 0), 1 << 11);
  }

  private static void pairEven() {
    e.of("PAIR: as the LAST, if a is even .. BADNESS twice");
    NineLasts x = Edge.with("foot 10 10 10 give 1;last 12 11 10;last 9 9 9;last 13 10 10;last 8 10 10;over 2 2 2;waste 1 5 1");
    for (int a : new int[] {0, 2, 30}) {
      tries(x, 4, 0, a, 14);
      tries(x, 4, 1, a, 0);
      tries(x, 4, 2, a, -1);
      tries(x, 4, 3, a, -1);
    }
  }

  private static void pairOdd() {
    e.of("else only if its L is not above the FOOT's by more than 1; BADNESS twice");
    NineLasts x = Edge.with("foot 10 10 10 give 1;last 10 10 10;last 11 12 12;last 12 10 10;last 9 12 10;last 8 10 10;"
        + "last 11 13 10;over 2 2 2");
    int[] due = {0, 10, -1, 4, -1, -1};
    for (int a : new int[] {1, 3, 29})
      for (int last = 0; last < 6; last++) tries(x, 4, last, a, due[last]);
    tries(x, 4, 2, 2, 4);
    // L alone is asked, not B or H.
    NineLasts flat = Edge.with("foot 10 2 3;last 11 4 6;last 12 2 3");
    tries(flat, 4, 0, 1, 12);
    tries(flat, 4, 1, 1, -1);
    NineLasts high = Edge.with("foot 10 20 30;last 12 20 30");
    tries(high, 4, 0, 1, -1);
  }

  private static void grown() {
    e.of("GROWN: as the LAST for the FOOT with L more by grow times a");
    NineLasts x = Edge.with("foot 10 10 10;last 15 10 10;last 16 30 10;grow 1;over 2 30 30;waste 3 0 0");
    tries(x, 5, 0, 0, -1);
    tries(x, 5, 0, 2, -1);
    tries(x, 5, 0, 3, -1);
    tries(x, 5, 1, 3, -1);
    tries(x, 5, 1, 4, 6);
    tries(x, 5, 1, 5, 3);
    tries(x, 5, 1, 6, 0);
    tries(x, 5, 1, 7, -1);
    e.due("the foot itself stays", x.footOf(0, 0, 0), 10);
    NineLasts still = Edge.with("foot 10 10 10;last 10 10 10;grow 0");
    tries(still, 5, 0, 0, 0);
    tries(still, 5, 0, 30, 0);
    NineLasts far = Edge.with("foot 30 1 1;last 39 9 1;last 40 40 40;grow 9;over 30 30 30;waste 1 0 0");
    tries(far, 5, 0, 0, 9);
    tries(far, 5, 0, 1, 0);
    far.carve(0, 0, 0, 38);
    tries(far, 5, 0, 1, -1);
    tries(far, 5, 1, 30, -1);
    NineLasts gives = Edge.with("foot 10 1 1 give 1;last 14 1 1;grow 5");
    tries(gives, 5, 0, 1, -1);
    gives.carve(0, 0, 1, 2);
    tries(gives, 5, 0, 1, 0);
    gives.carve(0, 0, 0, 13);
    tries(gives, 5, 0, 1, -1);
  }

  private static void grownBroader() {
    e.of("and B more by half of that (cut)");
    // grow times a is 1, 2, 3, then 27: B is 10 and 0, 1, 1, 13 more; H is not asked to grow.
    int[][] told = {{1, 1, 0}, {1, 2, 1}, {3, 1, 1}, {9, 3, 13}, {1, 3, 1}, {2, 2, 2}};
    for (int[] t : told) {
      NineLasts x = Edge.with("foot 10 10 10;last 40 40 10;over 30 0 0;waste 0 1 1;grow " + t[0]);
      x.carve(0, 0, 1, 10 + t[2]);
      tries(x, 5, 0, t[1], 0);
      x.carve(0, 0, 1, 10 + t[2] - 1);
      tries(x, 5, 0, t[1], -1);
      x.carve(0, 0, 1, 10 + t[2] + 1);
      tries(x, 5, 0, t[1], -1);
    }
  }

  private static void triesNone() {
    e.of("BADNESS of the TOOL in SHELF s for a FOOT of a VALLEY; NONE: it doesn't do.");
    NineLasts x = Edge.with("foot 1 1 1;foot 5 5 5;last 6 6 6;last 5 5 5;over 4 4 4", "foot 6 6 6;last 6 6 7;last 6 6 6");
    x.tool(0, 1, 1, 0);
    x.tool(1, 4, 0, 0);
    x.tool(7, 1, 0, 0);
    e.due("a foot that it doesn't do for", x.tries(0, 0, 7), -1);
    e.due("the last foot", x.tries(0, 1, 7), 3);
    e.due("another valley", x.tries(1, 0, 7), 1);
    e.due("another shelf", x.tries(0, 1, 0), 0);
    e.due("another shelf there", x.tries(1, 0, 0), 0);
    e.due("one more", x.tries(1, 0, 1), 2);
    e.due("nothing was refused", x.status(12) + x.status(13) + x.status(14) + x.status(15), 0);
  }

  private static void shoesBits() {
    e.of("FEET (bits) for which the TOOL in SHELF s DOES.");
    NineLasts x = Edge.with("last 11 11 11;foot 0 0 0;foot 1 1 1", "last 1 1 1");
    Checks.fill(x, 1, 0, Edge.row(2, 10));
    x.feet(0, 1);
    x.tool(0, 1, 0, 0);
    e.due("from 2 to 11", x.shoes(0, 0), 0xffc);
    x.carve(0, 0, 1, 12);
    x.carve(0, 0, 0, 0);
    e.due("none", x.shoes(0, 0), 0);
    e.due("of no feet", x.shoes(1, 0), 0);
    NineLasts y = Edge.with("foot 1 1 1;foot 2 2 2;foot 3 3 3;last 1 1 1;last 2 2 2;last 3 3 3;over 0 0 0",
        "foot 3 3 3;foot 1 1 1;last 1 1 1;last 3 3 3;last 2 2 2;over 0 0 0");
    int[][] due = {{1, 2, 4}, {2, 1, 0}};
    for (int s = 0; s < 3; s++) y.tool(s, 1, s, 0);
    for (int v = 0; v < 2; v++)
      for (int s = 0; s < 3; s++) e.due("shoes(" + v + ", " + s + ")", y.shoes(v, s), due[v][s]);
  }

  private static void noSuchLast() {
    e.of("STUCK: no such LAST there.");
    NineLasts x = Edge.with("foot 5 5 5;last 5 5 5;last 5 5 6");
    for (int kind = 1; kind <= 5; kind++) {
      x.tool(0, kind, 1, 0);
      e.due("the last LAST, kind " + kind, x.tries(0, 0, 0), kind == 3 ? 0 : kind == 4 ? 2 : 1);
      x.tool(0, kind, 2, 0);
      e.due("one more, kind " + kind, x.tries(0, 0, 0), -5);
      e.due("one more, kind " + kind, x.shoes(0, 0), -5);
      x.tool(0, kind, 9, 0);
      e.due("far more, kind " + kind, x.shoes(0, 0), -5);
    }
    e.due("how many STUCK", x.status(15), 15);
    x.build(0, 0, 1);
    x.tool(0, 1, 2, 0);
    e.due("once it is there", x.tries(0, 0, 0), 3);
    NineLasts none = Edge.with("foot 5 5 5");
    none.tool(0, 3, 0, 0);
    e.due("no LAST at all", none.tries(0, 0, 0), -5);
    NineLasts ten = Edge.tenLasts();
    ten.tool(0, 3, 9, 0);
    e.due("LAST 9", ten.tries(0, 0, 0), 0);
  }

  private static void statusTells() {
    e.of("VALLEYS (0), THE TAPE's size (1), SHELVES that hold something (2); 12 to 16: REFUSALS -2 to -6. NONE another what.");
    NineLasts x = Edge.fourValleys();
    for (int s = 0; s < 8; s++) x.row(s, 0, 0);
    Checks.tell(x, " ".repeat(250));
    e.due("four valleys", x.status(0), 4);
    e.due("a full tape", x.status(1), 250);
    e.due("eight shelves", x.status(2), 8);
    x.row(8, 0, 0);
    x.tool(0, 1, 0, 0);
    for (int i = 0; i < 2; i++) x.set(0, 0, 0);
    for (int i = 0; i < 4; i++) x.back();
    for (int i = 0; i < 5; i++) x.feed(0, 1);
    int[] due = {1, 2, 0, 4, 5};
    for (int i = 0; i < 5; i++) e.due("status(" + (12 + i) + ")", x.status(12 + i), due[i]);
    for (int w : new int[] {-1, 3, 4, 5, 6, 7, 8, 9, 10, 11, 17, -2, -6, MIN, MAX}) e.due("status(" + w + ")", x.status(w), -1);
    for (int i = 0; i < 5; i++) e.due("status is not refused: " + (12 + i), x.status(12 + i), due[i]);
    NineLasts y = new NineLasts();
    for (int i = 0; i < 3; i++) y.set(0, 0, 0);
    e.due("NOTHING three times", y.status(14), 3);
  }

  public static void main(String[] args) {
    newObject();
    fiveHundredAndTwelve();
    eightShelves();
    oneThingEach();
    fiveSorts();
    fortyElements();
    zeroAtFirst();
    lowestBits();
    booleans();
    setOne();
    copyToTheEnds();
    copyNone();
    copyAsTheyWere();
    elementIsNeverRefused();
    holdsWhat();
    toolsOfAllNumbers();
    saysByKind();
    madeIsTheLast();
    builtUp();
    builtCosts();
    ownAlone();
    pairEven();
    pairOdd();
    grown();
    grownBroader();
    triesNone();
    shoesBits();
    noSuchLast();
    statusTells();
    e.end("ShelfEdgeTest");
  }
}
