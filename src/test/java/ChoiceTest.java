/** Promises 22 to 46: whom a choice shoes, choices, a going-through, image and back. */
public final class ChoiceTest {
  private static final Checks c = new Checks();
  private static final int MIN = Integer.MIN_VALUE, MAX = Integer.MAX_VALUE;
  private static final int[] NO_VALLEY = {-1, 2, MIN, MAX};
  private static final int[] NO_COUNT = {-1, 11, MIN, MAX};

  private static final String OTHER_VALE = "foot 11 5 5 times 2;last 20 9 10 price 3;out 7";

  private static NineLasts two() { return Checks.with(ShelfTest.VALE, OTHER_VALE); }

  private static void badness() {
    NineLasts x = two();
    int[][] due = {{7, 2, -1}, {0, 0, -1}, {4, 0, -1}};
    for (int l = 0; l < 3; l++)
      for (int f = 0; f < 3; f++) {
        c.due("bad(0, " + l + ", " + f + ")", x.bad(0, l, f), due[l][f]);
        c.due("does(0, " + l + ", " + f + ")", x.does(0, l, f), due[l][f] >= 0 ? 1 : 0);
      }
    int[][] wrong = {{2, 0, 0}, {-1, 0, 0}, {0, 3, 0}, {0, -1, 0}, {0, 0, 3}, {0, 0, -1}, {MAX, 0, 0}, {0, MIN, 0}, {0, 0, MAX}};
    for (int[] w : wrong) {
      c.bad(x, "does " + java.util.Arrays.toString(w), () -> x.does(w[0], w[1], w[2]));
      c.bad(x, "bad " + java.util.Arrays.toString(w), () -> x.bad(w[0], w[1], w[2]));
    }
  }

  /** Of a foot of 10 that gives 2, with over 3: from 8 up to 13. */
  private static void edges() {
    for (int measure = 0; measure < 3; measure++) {
      NineLasts x = Checks.with("foot 10 10 10 give 2;last 10 10 10;over 3 3 3;waste 2 2 2");
      int[] due = {-1, 0, 0, 0, 2, 4, 6, -1};
      for (int size = 7; size <= 14; size++) {
        x.carve(0, 0, measure, size);
        c.due("bad of " + size + " in " + measure, x.bad(0, 0, 0), due[size - 7]);
      }
      NineLasts y = Checks.with("foot 10 10 10;last 10 10 10;over 3 3 3;waste 2 2 2");
      int[] stiff = {-1, 0, 2, 4, 6, -1};
      for (int size = 9; size <= 14; size++) {
        y.carve(0, 0, measure, size);
        c.due("bad of " + size + " in " + measure, y.bad(0, 0, 0), stiff[size - 9]);
      }
    }
  }

  /** The foot gives 2; LAST 0 is above it by just over (6 for 3), LAST 1 by one more: give takes nothing from over. */
  private static final String GIVES = "foot 10 5 5 times 2 give 2;last 13 5 5 price 1;last 14 5 5;over 3 3 3;"
      + "waste 2 1 1;out 20;grow 1";

  private static void giveLeavesOver() {
    NineLasts x = Checks.with(GIVES, "foot 20 5 5;last 13 5 5 price 5;last 14 5 5;over 30 30 30;out 7");
    c.due("does by just over", x.does(0, 0, 0), 1);
    c.due("does not by more", x.does(0, 1, 0), 0);
    c.due("bad by just over", x.bad(0, 0, 0), 6);
    c.due("bad by more", x.bad(0, 1, 0), -1);
    c.due("whose", x.whose(0, 0, 3), 0);
    c.due("whose of the other", x.whose(0, 0, 2), -1);
    int[] totals = {40, 13, 40, 13};
    for (int set = 0; set < 4; set++) {
      c.due("total of " + set, x.total(0, set), totals[set]);
      c.due("out by " + set, x.out(0, set), 1 - set % 2);
    }
    Checks.fill(x, 0, 2, 0);
    c.due("judge", x.judge(0, 3, 0), -1);
    c.due("judge by the other", x.judge(0, 2, 0), 0);
    c.due("best", x.best(0, 1), 1);
    c.due("more", x.more(0, 0), 27);
    c.due("enough 13", x.enough(0, 13), 1);
    c.due("enough 12", x.enough(0, 12), -1);
    c.due("changed", x.changed(0, 2), 1);
    c.due("bound", x.bound(0), 12);
    c.due("fair", x.fair(0, 1), 1);
    c.due("shod", x.shod(0, 1), 1);
    c.due("keeps till 15 less 2", x.keeps(0, 0, 5), 1);
    c.due("keeps no longer", x.keeps(0, 0, 6), 0);
    // A last of the other valley, by this one's over: 12 and its price, and the other's foot is OUT.
    c.due("lend", x.lend(0, 1, 0, 1), 12 + 5 + 7);
    c.due("lend what is too big", x.lend(0, 1, 0, 2), 40 + 7);
    c.due("doubt", x.doubt(0, 1), 28);
    c.due("idle", x.idle(0), 1);
    x.begin(0, 1);
    c.due("step", x.step(2), 13);
    c.due("search", x.search(3), 1);
    NineLasts y = Checks.with("foot 10 5 5 give 2;foot 13 5 5;over 3 3 3");
    cornerIs(y, 2, 1, 3, 13, 5, 5);
  }

  private static void sets() {
    NineLasts x = two();
    int[] totals = {100, 47, 20, 24, 34, 38, 22, 26};
    int[] first = {-1, 0, 1, 1, 2, 2, 1, 1};
    int[] second = {-1, 0, 1, 1, 2, 2, 1, 1};
    for (int set = 0; set < 8; set++) {
      c.due("total(0, " + set + ")", x.total(0, set), totals[set]);
      c.due("whose(0, 0, " + set + ")", x.whose(0, 0, set), first[set]);
      c.due("whose(0, 1, " + set + ")", x.whose(0, 1, set), second[set]);
      c.due("whose(0, 2, " + set + ")", x.whose(0, 2, set), -1);
      c.due("out(0, " + set + ")", x.out(0, set), set == 0 ? 7 : 4);
    }
    c.due("BADNESS above out stays BADNESS", x.total(1, 1), 2 * 18 + 3);
    for (int v : NO_VALLEY) {
      c.bad(x, "whose valley " + v, () -> x.whose(v, 0, 0));
      c.bad(x, "total valley " + v, () -> x.total(v, 0));
      c.bad(x, "out valley " + v, () -> x.out(v, 0));
    }
    for (int set : new int[] {8, -1, 16, MIN, MAX}) {
      c.bad(x, "whose set " + set, () -> x.whose(0, 0, set));
      c.bad(x, "total set " + set, () -> x.total(0, set));
      c.bad(x, "out set " + set, () -> x.out(0, set));
      c.bad(x, "changed set " + set, () -> x.changed(0, set));
    }
    for (int f : new int[] {-1, 3, MIN, MAX}) c.bad(x, "whose foot " + f, () -> x.whose(0, f, 0));
    NineLasts none = Checks.with("out 3");
    c.due("total of nothing", none.total(0, 0), 0);
    c.bad(none, "a set of no lasts", () -> none.total(0, 1));
  }

  private static void judges() {
    NineLasts x = two();
    Checks.fill(x, 0, 2, 1, 1, -1);
    c.due("all as it is", x.judge(0, 7, 0), -1);
    Checks.fill(x, 0, 2, 1, 1);
    c.due("a missing one is OUT", x.judge(0, 7, 0), -1);
    Checks.fill(x, 0, 2, 1, 1, 3);
    c.due("no last is OUT", x.judge(0, 7, 0), -1);
    Checks.fill(x, 0, 3, 1, 1, 1L << 32);
    c.due("no last is OUT", x.judge(0, 7, 0), -1);
    Checks.fill(x, 0, 2, 1, 1, 2);
    c.due("a last for one that is OUT", x.judge(0, 7, 0), 2);
    Checks.fill(x, 0, 2, 1, 2, 2);
    c.due("equal, but not the first", x.judge(0, 7, 0), 1);
    Checks.fill(x, 0, 2, 2, 1);
    c.due("a worse one", x.judge(0, 7, 0), 0);
    Checks.fill(x, 0, 2, 1);
    c.due("one that is not in the set", x.judge(0, 4, 0), 0);
    c.due("a missing one that is not OUT", x.judge(0, 7, 0), 1);
    x.row(0, 2, 0);
    c.due("an empty row and no lasts", x.judge(0, 0, 0), -1);
    x.tool(1, 1, 0, 0);
    c.bad(x, "judge no valley, a tool", () -> x.judge(2, 0, 1));
    c.bad(x, "judge no set", () -> x.judge(0, 8, 1));
    c.bad(x, "judge no shelf", () -> x.judge(0, 0, 8));
    c.other(x, "judge a tool", () -> x.judge(0, 0, 1));
    c.nothing(x, "judge nothing", () -> x.judge(0, 0, 2));
  }

  private static void bests() {
    NineLasts x = two();
    c.due("best of 0", x.best(0, 0), 0);
    for (int n = 1; n <= 10; n++) c.due("best of " + n, x.best(0, n), 2);
    c.due("more(0, 0)", x.more(0, 0), 80);
    for (int n = 1; n <= 9; n++) c.due("more(0, " + n + ")", x.more(0, n), 0);
    c.due("enough 100", x.enough(0, 100), 0);
    c.due("enough MAX", x.enough(0, MAX), 0);
    c.due("enough 99", x.enough(0, 99), 1);
    c.due("enough 20", x.enough(0, 20), 1);
    c.due("enough 19", x.enough(0, 19), -1);
    c.due("enough 0", x.enough(0, 0), -1);
    c.due("idle", x.idle(0), 0);
    NineLasts tie = Checks.with("foot 5 5 5;foot 9 9 9;last 9 9 9;last 5 5 5;last 9 9 9;out 30;over 1 1 1");
    c.due("of several the least as bits", tie.best(0, 1), 1);
    c.due("of two", tie.best(0, 2), 3);
    c.due("of three", tie.best(0, 3), 3);
    c.due("idle", tie.idle(0), 2);
    NineLasts all = Checks.with("foot 5 5 5;last 5 5 5;foot 9 9 9;last 9 9 9;over 1 1 1");
    c.due("none is idle", all.idle(0), -1);
    c.due("more for each", all.more(0, 0) * 100 + all.more(0, 1), 5050);
    NineLasts ten = tenForTen();
    c.due("all ten", ten.best(0, 10), 1023);
    c.due("none of ten is idle", ten.idle(0), -1);
    c.due("ten are enough", ten.enough(0, 0), 10);
    c.due("nine are enough", ten.enough(0, 50), 9);
    c.due("the tenth", ten.more(0, 9), 50);
    NineLasts dear = Checks.with("foot 5 5 5;last 5 5 5 price 51");
    c.due("too dear", dear.best(0, 1), 0);
    c.due("idle", dear.idle(0), 0);
    dear.carve(0, 0, 3, 50);
    c.due("as dear as being OUT", dear.best(0, 1), 0);
    dear.carve(0, 0, 3, 49);
    c.due("cheaper", dear.best(0, 1), 1);
    for (int v : NO_VALLEY) {
      c.bad(x, "best valley " + v, () -> x.best(v, 1));
      c.bad(x, "more valley " + v, () -> x.more(v, 1));
      c.bad(x, "enough valley " + v, () -> x.enough(v, 1));
      c.bad(x, "idle valley " + v, () -> x.idle(v));
    }
    for (int n : NO_COUNT) {
      c.bad(x, "best of " + n, () -> x.best(0, n));
      c.bad(x, "more of " + n, () -> x.more(0, n));
    }
    c.bad(x, "more of 10", () -> x.more(0, 10));
    c.bad(x, "enough -1", () -> x.enough(0, -1));
    c.bad(x, "enough MIN", () -> x.enough(0, MIN));
  }

  /** Ten feet, each of which one last alone does for. */
  private static NineLasts tenForTen() {
    StringBuilder text = new StringBuilder("over 0 0 0");
    for (int i = 0; i < 10; i++) text.append(";foot ").append(i).append(" 1 1;last ").append(i).append(" 1 1");
    return Checks.with(text.toString());
  }

  private static void changes() {
    NineLasts x = two();
    int[] due = {0, 2, 2, 6, 2, 6, 6, 7};
    for (int set = 0; set < 8; set++) c.due("changed(0, " + set + ")", x.changed(0, set), due[set]);
    NineLasts tie = Checks.with("foot 5 5 5;foot 9 9 9;last 1 1 1;last 2 2 2;last 5 5 5;last 9 9 9;over 0 0 0");
    // {0, 1}: any pair is as good; the first put out is 0, the first put in 2; then 1 goes for 3.
    c.due("the first by the one put out, then put in", tie.changed(0, 3), 12);
    NineLasts one = Checks.with("foot 5 5 5;last 1 1 1;last 2 2 2;last 5 5 5;last 5 5 5;over 0 0 0");
    c.due("of pairs the first put out", one.changed(0, 3), 6);
    NineLasts caught = Checks.with("foot 5 5 5;last 5 5 5 price 9;last 6 5 5 price 9;last 7 5 5");
    c.due("only while it is less", caught.changed(0, 1), 4);
    c.due("not by adding", caught.changed(0, 0), 0);
    for (int v : NO_VALLEY) c.bad(x, "changed valley " + v, () -> x.changed(v, 0));
  }

  private static void bounds() {
    NineLasts x = two();
    c.due("bound(0)", x.bound(0), 20);
    c.due("the lesser is out", x.bound(1), 14);
    NineLasts y = Checks.with("foot 5 5 5 times 3;foot 6 6 6;last 6 6 6 price 99;last 7 7 7;out 10");
    c.due("prices don't count", y.bound(0), 9);
    c.due("no feet", Checks.with("last 1 1 1").bound(0), 0);
    for (int v : NO_VALLEY) c.bad(x, "bound valley " + v, () -> x.bound(v));
  }

  private static void fairs() {
    NineLasts x = two();
    for (int n = 0; n <= 10; n++) c.due("nobody may be OUT", x.fair(0, n), -1);
    NineLasts y = Checks.with("foot 5 5 5 times 9;foot 9 5 5;last 9 5 5;last 5 5 5;last 6 5 5 price 30;last 9 5 6;last 9 5 5");
    c.due("fair of 0", y.fair(0, 0), -1);
    c.due("fair of 1", y.fair(0, 1), 1);
    c.due("fair of 2", y.fair(0, 2), 3);
    c.due("fair of 3", y.fair(0, 3), 3);
    NineLasts z = Checks.with("foot 5 5 5;foot 9 5 5 times 4;last 9 5 5 price 4;last 7 5 5 price 50;last 9 5 6");
    c.due("the least greatest BADNESS ahead of TOTAL", z.fair(0, 1), 1);
    c.due("even if it is dear", z.fair(0, 2), 3);
    NineLasts sum = Checks.with("foot 5 5 5;foot 9 5 5;last 9 5 5 price 4;last 9 5 5 price 3;last 9 5 5 price 3");
    c.due("of several the least TOTAL, then bits", sum.fair(0, 3), 2);
    c.due("no feet", Checks.with("last 1 1 1").fair(0, 1), 0);
    c.due("shod of 0", x.shod(0, 0), 0);
    c.due("shod of 1", x.shod(0, 1), 2);
    c.due("shod of 2", x.shod(0, 2), 2);
    NineLasts w = Checks.with("foot 5 5 5 times 2;foot 8 8 8;foot 9 9 9;foot 20 9 9 times 3;last 5 5 5;last 9 9 9;"
        + "last 20 9 9 price 99;over 2 2 2;out 1");
    c.due("the fewest by times, whatever it costs", w.shod(0, 1), 4);
    c.due("of several the least TOTAL", w.shod(0, 2), 5);
    c.due("all", w.shod(0, 3), 7);
    c.due("best is another", w.best(0, 1), 1);
    for (int v : NO_VALLEY) {
      c.bad(x, "fair valley " + v, () -> x.fair(v, 1));
      c.bad(x, "shod valley " + v, () -> x.shod(v, 1));
    }
    for (int n : NO_COUNT) {
      c.bad(x, "fair of " + n, () -> x.fair(0, n));
      c.bad(x, "shod of " + n, () -> x.shod(0, n));
    }
  }

  private static void lineIs(NineLasts x, int measure, int n, int sum, int... sizes) {
    String call = "line(0, " + measure + ", " + n + ", ";
    c.due(call + "0)", x.line(0, measure, n, 0), sum);
    c.due(call + "1)", x.line(0, measure, n, 1), sizes.length);
    for (int i = 0; i < sizes.length; i++) c.due(call + (10 + i) + ")", x.line(0, measure, n, 10 + i), sizes[i]);
    c.bad(x, call + (10 + sizes.length) + ")", () -> x.line(0, measure, n, 10 + sizes.length));
  }

  private static void lines() {
    NineLasts x = two();
    lineIs(x, 0, 1, 38, 20);
    lineIs(x, 0, 2, 6, 12, 20);
    lineIs(x, 0, 3, 0, 10, 12, 20);
    lineIs(x, 0, 6, 0, 10, 12, 20);
    lineIs(x, 1, 1, 32, 9);
    lineIs(x, 1, 2, 0, 5, 9);
    lineIs(x, 2, 1, 57, 9);
    lineIs(x, 2, 2, 9, 5, 9);
    NineLasts tie = Checks.with("foot 1 1 1;foot 2 2 2;foot 3 3 3;foot 4 4 4;waste 1 0 1");
    lineIs(tie, 0, 2, 2, 2, 4);
    lineIs(tie, 0, 3, 1, 1, 2, 4);
    lineIs(tie, 1, 6, 0, 4);
    NineLasts give = Checks.with("foot 5 5 5 give 9;foot 9 9 9");
    lineIs(give, 0, 1, 4, 9);
    NineLasts many = Checks.with("foot 1 1 1;foot 2 1 1;foot 3 1 1;foot 4 1 1;foot 5 1 1;foot 6 1 1;foot 7 1 1;foot 8 1 1");
    lineIs(many, 0, 6, 2, 1, 2, 3, 4, 6, 8);
    NineLasts twelve = Checks.with("foot 0 30 0;foot 30 0 30");
    Checks.fill(twelve, 0, 0, 1, 1, 1, 1, 2, 2, 2, 1, 3, 3, 3, 1, 4, 4, 4, 1, 5, 5, 5, 1, 6, 6, 6, 1, 7, 7, 7, 1,
        8, 8, 8, 1, 9, 9, 9, 1, 10, 10, 10, 1);
    c.due("ten feet more", twelve.feet(0, 0), 10);
    c.due("12 sizes of each", twelve.corners(0), 1728);
    // 0 to 10 in five spans, four of two sizes and one of three: the long one last, that the first sizes be least.
    lineIs(twelve, 0, 6, 7, 1, 3, 5, 7, 10, 30);
    lineIs(twelve, 1, 1, 12 * 30 - 55 - 30, 30);
    for (int v : NO_VALLEY) c.bad(x, "line valley " + v, () -> x.line(v, 0, 1, 0));
    for (int m : new int[] {-1, 3, MIN, MAX}) c.bad(x, "line measure " + m, () -> x.line(0, m, 1, 0));
    for (int n : new int[] {0, 7, -1, MIN, MAX}) c.bad(x, "line n " + n, () -> x.line(0, 0, n, 0));
    for (int w : new int[] {-1, 2, 9, 16, MIN, MAX}) c.bad(x, "line what " + w, () -> x.line(0, 0, 6, w));
    NineLasts none = Checks.with("last 1 1 1");
    for (int w : new int[] {0, 1, 10}) c.bad(none, "line of no feet " + w, () -> none.line(0, 0, 1, w));
  }

  private static void cornerIs(NineLasts x, int count, int... due) {
    c.due("corners(0)", x.corners(0), count);
    for (int w = 0; w < 5; w++) c.due("corner(0, " + w + ")", x.corner(0, w), due[w]);
  }

  private static void corners() {
    NineLasts x = two();
    cornerIs(x, 18, 0, 20, 10, 5, 4);
    NineLasts y = Checks.with("foot 9 3 7 times 2;foot 8 4 7;foot 8 3 6 times 9;waste 1 2 3;out 90");
    // 9 4 7: 2 * 2 + 1 + 9 * (1 + 2 + 3) = 59; all others leave somebody OUT.
    cornerIs(y, 8, 7, 59, 9, 4, 7);
    NineLasts tie = Checks.with("foot 2 3 4;foot 3 2 4;out 0;last 1 1 1 price 9");
    cornerIs(tie, 4, 0, 0, 2, 2, 4);
    NineLasts none = Checks.with("last 1 1 1");
    c.due("corners of no feet", none.corners(0), 0);
    for (int w = 0; w < 5; w++) {
      int what = w;
      c.bad(none, "corner of no feet", () -> none.corner(0, what));
    }
    for (int v : NO_VALLEY) {
      c.bad(x, "corners valley " + v, () -> x.corners(v));
      c.bad(x, "corner valley " + v, () -> x.corner(v, 0));
    }
    for (int w : new int[] {-1, 5, MIN, MAX}) c.bad(x, "corner what " + w, () -> x.corner(0, w));
  }

  private static void keeps() {
    NineLasts x = two();
    c.due("keeps(0, 0, 1)", x.keeps(0, 0, 1), 1);
    c.due("keeps(0, 0, 2)", x.keeps(0, 0, 2), 0);
    c.due("keeps(0, 1, 1)", x.keeps(0, 1, 1), 1);
    c.due("keeps(0, 2, 1)", x.keeps(0, 2, 1), 0);
    NineLasts cap = Checks.with("foot 29 1 1;last 30 1 1;last 29 1 1;last 39 1 1;grow 9");
    c.due("L is 30 at most", cap.keeps(0, 0, 9), 1);
    c.due("it must do now, too", cap.keeps(0, 0, 1), 1);
    NineLasts still = Checks.with("foot 5 5 5;last 5 5 5;last 4 5 5;last 6 6 6;grow 0");
    c.due("without growing", still.keeps(0, 0, 9), 5);
    c.due("nothing grew by asking", x.footOf(0, 0, 0), 10);
    for (int n : new int[] {0, 10, -1, MIN, MAX}) c.bad(x, "keeps n " + n, () -> x.keeps(0, 0, n));
    for (int f : new int[] {-1, 3, MIN, MAX}) c.bad(x, "keeps foot " + f, () -> x.keeps(0, f, 1));
    for (int v : NO_VALLEY) c.bad(x, "keeps valley " + v, () -> x.keeps(v, 0, 1));
  }

  private static void lends() {
    NineLasts x = two();
    c.due("lend(0, 1, 2, 1)", x.lend(0, 1, 2, 1), 42);
    c.due("lend(1, 0, 1, 2)", x.lend(1, 0, 1, 2), 42);
    c.due("lend(0, 1, 4, 1)", x.lend(0, 1, 4, 1), 20);
    c.due("lend(0, 1, 0, 0)", x.lend(0, 1, 0, 0), 114);
    c.due("lend(0, 1, 4, 0)", x.lend(0, 1, 4, 0), 34);
    c.bad(x, "one and itself", () -> x.lend(0, 0, 0, 0));
    c.bad(x, "no set of the first", () -> x.lend(0, 1, 8, 0));
    c.bad(x, "no set of the other", () -> x.lend(0, 1, 0, 2));
    c.bad(x, "a set below 0", () -> x.lend(0, 1, -1, 0));
    c.bad(x, "a set below 0", () -> x.lend(0, 1, 0, MIN));
    for (int v : NO_VALLEY) {
      c.bad(x, "lend valley " + v, () -> x.lend(v, 0, 0, 0));
      c.bad(x, "lend other " + v, () -> x.lend(0, v, 0, 0));
    }
  }

  private static void doubts() {
    NineLasts x = two();
    c.due("doubt(0, 1)", x.doubt(0, 1), 0);
    NineLasts y = Checks.with("foot 5 5 5;foot 9 9 9;last 5 5 5;last 9 9 9;out 30;over 1 1 1");
    c.due("doubt of 0", y.doubt(0, 0), 0);
    c.due("doubt of 1", y.doubt(0, 1), 30);
    // Without one foot its last isn't chosen: of equal totals the least bits.
    c.due("doubt of 2", y.doubt(0, 2), 60);
    y.alter(0, 0, 0, 4);
    c.due("by times", y.doubt(0, 2), 150);
    NineLasts z = Checks.with("foot 5 5 5;foot 5 5 5;last 6 5 5;last 5 5 5");
    c.due("each measured by another", z.doubt(0, 2), 0);
    c.due("no feet", Checks.with("last 1 1 1").doubt(0, 1), 0);
    for (int v : NO_VALLEY) c.bad(x, "doubt valley " + v, () -> x.doubt(v, 1));
    for (int n : NO_COUNT) c.bad(x, "doubt of " + n, () -> x.doubt(0, n));
  }

  private static void searchIs(NineLasts x, int... due) {
    for (int w = 0; w < 5; w++) c.due("search(" + w + ")", x.search(w), due[w]);
  }

  private static void goingThrough() {
    NineLasts x = two();
    c.bad(x, "step 0, none under way", () -> x.step(0));
    c.stuck(x, "step, none under way", () -> x.step(1));
    c.bad(x, "search 5, none under way", () -> x.search(5));
    c.due("begin(0, 1)", x.begin(0, 1), 8);
    searchIs(x, 0, 1, 0, -1, 0);
    c.due("step(1)", x.step(1), 100);
    searchIs(x, 0, 1, 1, 0, 0);
    x.carve(0, 1, 3, 99);
    x.alter(0, 0, 0, 9);
    c.due("the valley as it was", x.step(2), 20);
    searchIs(x, 0, 1, 3, 2, 0);
    c.due("set 3 doesn't count", x.step(1), 20);
    c.due("till the last", x.step(999), 20);
    searchIs(x, 0, 1, 8, 2, 1);
    c.stuck(x, "step when it is done", () -> x.step(1));
    for (int k : new int[] {0, -1, 1000, MIN, MAX}) c.bad(x, "step " + k, () -> x.step(k));
    for (int w : new int[] {-1, 5, MIN, MAX}) c.bad(x, "search " + w, () -> x.search(w));
    for (int v : NO_VALLEY) c.bad(x, "begin valley " + v, () -> x.begin(v, 1));
    for (int n : NO_COUNT) c.bad(x, "begin of " + n, () -> x.begin(0, n));
    searchIs(x, 0, 1, 8, 2, 1);
    c.due("another one", x.begin(1, 0), 2);
    searchIs(x, 1, 0, 0, -1, 0);
    c.due("step(2)", x.step(2), 14);
    searchIs(x, 1, 0, 2, 0, 1);
    NineLasts big = Checks.with("foot 5 5 5;last 1 1 1");
    for (int i = 1; i < 10; i++) big.build(0, 0, i);
    c.due("1024 sets", big.begin(0, 10), 1024);
    c.due("999 of them", big.step(999), 4);
    c.due("not done", big.search(4), 0);
    c.due("the others", big.step(999), 4);
    searchIs(big, 0, 10, 1024, 16, 1);
    NineLasts none = Checks.with("out 4");
    c.due("no lasts", none.begin(0, 10), 1);
    c.due("one set", none.step(1), 0);
    searchIs(none, 0, 10, 1, 0, 1);
  }

  private static void images() {
    NineLasts x = two();
    c.stuck(x, "nothing was kept", () -> x.back());
    x.begin(0, 2);
    x.step(2);
    x.row(0, 2, 3);
    c.due("image()", x.image(), 1);
    Checks.tell(x, "out 9");
    x.valley();
    x.feet(9, 0);
    x.set(0, 1, 77);
    x.tool(1, 1, 0, 0);
    Checks.tell(x, "ab");
    x.step(3);
    x.carve(0, 0, 0, 40);
    x.alter(0, 0, 1, 9);
    x.build(1, 0, 1);
    x.year(0);
    Checks.fill(x, 2, 2, 1, 1, 1, 1);
    x.feet(1, 2);
    int bads = x.status(12);
    c.due("back()", x.back(), 1);
    c.due("valleys", x.status(0), 2);
    searchIs(x, 0, 2, 2, 1, 0);
    int[] totals = {100, 47, 20, 24, 34, 38, 22, 26};
    for (int set = 0; set < 8; set++) c.due("total(0, " + set + ")", x.total(0, set), totals[set]);
    c.due("feet of valley 1", x.valleyOf(1, 0), 1);
    c.due("lasts of valley 1", x.valleyOf(1, 1), 1);
    c.due("shelves stay", x.element(0, 1), 77);
    c.due("shelves stay", x.holds(1), 11);
    c.due("the tape stays", x.status(1), 2);
    c.due("refusals stay", x.status(12), bads);
    x.step(999);
    x.carve(0, 0, 0, 40);
    c.due("back() once more", x.back(), 1);
    searchIs(x, 0, 2, 2, 1, 0);
    c.due("L again", x.lastOf(0, 0, 0), 12);
    x.carve(0, 0, 0, 13);
    x.image();
    x.carve(0, 0, 0, 14);
    x.back();
    c.due("the later image counts", x.lastOf(0, 0, 0), 13);
    NineLasts y = new NineLasts();
    y.image();
    Checks.tell(y, "out 1");
    y.valley();
    y.begin(0, 1);
    c.due("back to nothing", y.back(), 1);
    c.due("no valleys", y.status(0), 0);
    c.stuck(y, "none under way", () -> y.search(0));
    Checks.tell(y, "out 2");
    c.due("a valley again", y.valley(), 0);
  }

  public static void main(String[] args) {
    badness();
    edges();
    giveLeavesOver();
    sets();
    judges();
    bests();
    changes();
    bounds();
    fairs();
    lines();
    corners();
    keeps();
    lends();
    doubts();
    goingThrough();
    images();
    c.end("ChoiceTest");
  }
}
